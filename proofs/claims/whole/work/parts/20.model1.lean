/-! PackDrawerModel.in -/
abbrev wdX7_0 (cA : ClassId) : va_W := []
abbrev rmX7_in : Room := { frames := 0, cells := 0, slots := 0, locals := 0 }
def pX7_in (a0 : Int32) (a1 : Int32) (a2 : Int32) : Option (Int32) := if a0 < a1 then some (0 : Int32) else if a2 < a0 then some (0 : Int32) else some (1 : Int32)
set_option maxHeartbeats 4000000 in
set_option maxRecDepth 100000 in
theorem bwX7_in {p : Program} {l : Launch} {e : Env} {s : State} {m : MethodId} {args : Array Value} {below : List Frame} {meth : Method} {c : Code} {D : va_G} {A : Nat → Prop} {cA : ClassId} {res : Int32} (C0 : cx p s m args meth c cX7_in 3 RX7 wsX7_in (some .boolean) D vwCl [(cA, .int)] A) (a0 : Int32) (a1 : Int32) (a2 : Int32) (h : pX7_in a0 a1 a2 = some res) : At_ p l e (rmX7_in) s m args below meth c D vwCl A 3 0 0 (Qi_ below args s D vwCl A (wdX7_0 cA) res) 0 [(0, .int a0), (1, .int a1), (2, .int a2)] [] (wdX7_0 cA) := by
  unfold pX7_in at h
  refine a_iload_n C0 dX7_in_0 rfl 0 rfl ?_
  refine a_iload_n C0 dX7_in_1 rfl 1 rfl ?_
  refine a_icmp_lt C0 14 dX7_in_2 (by decide) (fun c_1 => ?_) (fun c_1 => ?_)
  · have h := it_ c_1 h
    refine a_iconst C0 (0 : Int32) dX7_in_14 (by decide) ?_
    obtain rfl := Option.some.inj h
    exact a_zret C0 dX7_in_15 rfl rfl rfl
  · have h := ie_ c_1 h
    refine a_iload_n C0 dX7_in_5 rfl 0 rfl ?_
    refine a_iload_n C0 dX7_in_6 rfl 2 rfl ?_
    refine a_icmp_gt C0 14 dX7_in_7 (by decide) (fun c_2 => ?_) (fun c_2 => ?_)
    · have h := it_ c_2 h
      refine a_iconst C0 (0 : Int32) dX7_in_14 (by decide) ?_
      obtain rfl := Option.some.inj h
      exact a_zret C0 dX7_in_15 rfl rfl rfl
    · have h := ie_ c_2 h
      refine a_iconst C0 (1 : Int32) dX7_in_10 (by decide) ?_
      refine a_goto C0 15 dX7_in_11 (by decide) ?_
      obtain rfl := Option.some.inj h
      exact a_zret C0 dX7_in_15 rfl rfl rfl
set_option maxRecDepth 100000 in
theorem ctX7_in (l : Launch) (D : va_G) (cA : ClassId) (a0 : Int32) (a1 : Int32) (a2 : Int32) {res : Int32} (h : pX7_in a0 a1 a2 = some res) : Cti l yX7_in wsX7_in (rmX7_in) D vwCl [(cA, .int)] [.int a0, .int a1, .int a2] (wdX7_0 cA) (wdX7_0 cA) 0 0 res :=
  ct_i (maxL := 3) (cc := cX7_in) (by decide) rfl (Nat.le_of_ble_eq_true rfl) (fun p e s m below meth c C0 => bwX7_in C0 a0 a1 a2 h)
/-! PackDrawerModel.put -/
abbrev wdX7_1 (cA : ClassId) (q0 q1 q2 q3 q4 q5 q6 q7 q8 q9 q10 q11 q12 q13 : Nat) (f0 : Nat → Int32) (l0_31 : Int64) (l0_32 : Int64) (f1 : Nat → Int32) : va_W := [(q0, .inr (7, [.ref q1, .int (f0 1), .int (f0 2), .ref q2, .ref q3, .ref q4, .ref q5, .ref q6, .ref q7, .ref q8, .int (f0 10), .ref q9, .ref q10, .ref q11, .int (f0 14), .int (f0 15), .int (f0 16), .int (f0 17), .int (f0 18), .int (f0 19), .int (f0 20), .int (f0 21), .int (f0 22), .int (f0 23), .int (f0 24), .int (f0 25), .int (f0 26), .int (f0 27), .int (f0 28), .ref q12, .ref q13, .long l0_31, .long l0_32])), (q1, .inl (cA, 160, .inl f1))]
theorem hdX7_in : yX7_in.cls = RX7 ∧ yX7_in.cls ≠ "java/lang/invoke/MethodHandle" ∧ yX7_in.cls ≠ "java/lang/invoke/VarHandle" ∧ (parseMethodDescriptor yX7_in.desc).map (fun d => d.parameters.length) = some 3 := by decide +kernel
abbrev rmX7_put : Room := { frames := 1, cells := 0, slots := 0, locals := 22 }
theorem lkX7_put_53 : Cond.fieldLink RX7 53 RX7 (TX7 1).2.1 (TX7 1).2.2.1 ∈ wsX7_put := by decide +kernel
theorem inX7_put_X7 : ∀ w ∈ u_ws RX7 TX7 33, w ∈ wsX7_put := by decide +kernel
theorem lkX7_put_7 : Cond.fieldLink RX7 7 RX7 (TX7 0).2.1 (TX7 0).2.2.1 ∈ wsX7_put := by decide +kernel
def pX7_put (a1 : Int32) (f0 : Nat → Int32) (l0_31 : Int64) (l0_32 : Int64) (f1 : Nat → Int32) : Option (Int32 × (Nat → Int32) × (Nat → Int32)) := bd1 (pX7_in a1 (0 : Int32) (255 : Int32)) (fun r_1 => if r_1 = 0 then some ((-2 : Int32), f0, f1) else if (f0 1) = (160 : Int32) then some ((-3 : Int32), f0, f1) else gi_ (f0 1) 160 (lt_ (upd f1 (f0 1).toNatClampNeg a1) (fun f1_6 => lt_ (upd f0 1 ((f0 1) + (1 : Int32))) (fun f0_7 => some ((f0_7 1), f0_7, f1_6)))))
set_option maxHeartbeats 4000000 in
set_option maxRecDepth 100000 in
theorem bwX7_put {p : Program} {l : Launch} {e : Env} {s : State} {m : MethodId} {args : Array Value} {below : List Frame} {meth : Method} {c : Code} {D : va_G} {A : Nat → Prop} {cA : ClassId} {q0 q1 q2 q3 q4 q5 q6 q7 q8 q9 q10 q11 q12 q13 : Nat} {res : Int32 × (Nat → Int32) × (Nat → Int32)} (C0 : cx p s m args meth c cX7_put 2 RX7 wsX7_put (some .int) D vwCl [(cA, .int)] A) (a1 : Int32) (f0 : Nat → Int32) (l0_31 : Int64) (l0_32 : Int64) (f1 : Nat → Int32) (h : pX7_put a1 f0 l0_31 l0_32 f1 = some res) : At_ p l e (rmX7_put) s m args below meth c D vwCl A 2 0 0 (Qi_ below args s D vwCl A (wdX7_1 cA q0 q1 q2 q3 q4 q5 q6 q7 q8 q9 q10 q11 q12 q13 res.2.1 l0_31 l0_32 res.2.2) res.1) 0 [(0, .ref q0), (1, .int a1)] [] (wdX7_1 cA q0 q1 q2 q3 q4 q5 q6 q7 q8 q9 q10 q11 q12 q13 f0 l0_31 l0_32 f1) := by
  unfold pX7_put at h
  refine a_iload_n C0 dX7_put_0 rfl 1 rfl ?_
  refine a_iconst C0 (0 : Int32) dX7_put_1 (by decide) ?_
  refine a_sipush C0 (255 : Int32) dX7_put_2 (by decide) ?_
  obtain ⟨r_1, h_2, h⟩ := bd1_e h
  refine a_callSi C0 (wdX7_1 cA q0 q1 q2 q3 q4 q5 q6 q7 q8 q9 q10 q11 q12 q13 f0 l0_31 l0_32 f1) (As := [.int a1, .int (0 : Int32), .int (255 : Int32)]) (rest := []) (ctX7_in l D cA a1 (0 : Int32) (255 : Int32) h_2) (cwS 3 C0.1.2.2.2.2 gX7_put_X7_in rfl rfl rfl hdX7_in ⟨Nat.le_of_ble_eq_true rfl, Nat.le_of_ble_eq_true rfl⟩) [] [0, 1] [0, 1] rfl rfl rfl rfl (by decide) rfl rfl rfl rfl (Nat.le_of_ble_eq_true rfl) dX7_put_5 ⟨Nat.zero_le _, Nat.zero_le _⟩ ?_
  refine a_if_ne C0 14 dX7_put_8 (by decide) (fun c_3 => ?_) (fun c_3 => ?_)
  · have h := ie_ c_3 h
    refine a_aload_n C0 dX7_put_14 rfl 0 rfl ?_
    refine a_get C0 inX7_put_X7 0 rfl rfl 1 (by decide) lkX7_put_53 (fun _ h9 => h9) (.int (f0 1)) rfl dX7_put_15 ?_
    refine a_sipush C0 (160 : Int32) dX7_put_18 (by decide) ?_
    refine a_icmp_ne C0 27 dX7_put_21 (by decide) (fun c_4 => ?_) (fun c_4 => ?_)
    · have h := ie_ c_4 h
      refine a_aload_n C0 dX7_put_27 rfl 0 rfl ?_
      refine a_get C0 inX7_put_X7 0 rfl rfl 0 (by decide) lkX7_put_7 (fun _ h9 => h9) (.ref q1) rfl dX7_put_28 ?_
      refine a_aload_n C0 dX7_put_31 rfl 0 rfl ?_
      refine a_get C0 inX7_put_X7 0 rfl rfl 1 (by decide) lkX7_put_53 (fun _ h9 => h9) (.int (f0 1)) rfl dX7_put_32 ?_
      refine a_iload_n C0 dX7_put_35 rfl 1 rfl ?_
      obtain ⟨g_5, h⟩ := gi_e h
      obtain ⟨f1_6, ef1_6, h⟩ := lt_e h
      refine a_iast C0 1 0 rfl rfl g_5 dX7_put_36 (wdX7_1 cA q0 q1 q2 q3 q4 q5 q6 q7 q8 q9 q10 q11 q12 q13 f0 l0_31 l0_32 f1_6) (by subst ef1_6; rfl) ?_
      refine a_aload_n C0 dX7_put_37 rfl 0 rfl ?_
      refine a_dup C0 dX7_put_38 rfl ?_
      refine a_get C0 inX7_put_X7 0 rfl rfl 1 (by decide) lkX7_put_53 (fun _ h9 => h9) (.int (f0 1)) rfl dX7_put_39 ?_
      refine a_iconst C0 (1 : Int32) dX7_put_42 (by decide) ?_
      refine a_iadd C0 dX7_put_43 ?_
      obtain ⟨f0_7, ef0_7, h⟩ := lt_e h
      refine a_put C0 inX7_put_X7 tyX7 tyX7_ok nmX7 0 rfl rfl 1 (by decide) lkX7_put_53 (fun _ h9 => h9) rfl (ty := .int) (v := .int ((f0 1) + (1 : Int32))) (by decide +kernel) rfl rfl (Nat.le_of_ble_eq_true rfl) dX7_put_44 (wdX7_1 cA q0 q1 q2 q3 q4 q5 q6 q7 q8 q9 q10 q11 q12 q13 f0_7 l0_31 l0_32 f1_6) (by subst ef0_7; rfl) ?_
      refine a_aload_n C0 dX7_put_47 rfl 0 rfl ?_
      refine a_get C0 inX7_put_X7 0 rfl rfl 1 (by decide) lkX7_put_53 (fun _ h9 => h9) (.int (f0_7 1)) rfl dX7_put_48 ?_
      obtain rfl := Option.some.inj h
      exact a_iret C0 dX7_put_51 rfl rfl
    · have h := it_ c_4 h
      refine a_bipush C0 (-3 : Int32) dX7_put_24 (by decide) ?_
      obtain rfl := Option.some.inj h
      exact a_iret C0 dX7_put_26 rfl rfl
  · have h := it_ c_3 h
    refine a_bipush C0 (-2 : Int32) dX7_put_11 (by decide) ?_
    obtain rfl := Option.some.inj h
    exact a_iret C0 dX7_put_13 rfl rfl
set_option maxRecDepth 100000 in
theorem ctX7_put (l : Launch) (D : va_G) (cA : ClassId) (q0 q1 q2 q3 q4 q5 q6 q7 q8 q9 q10 q11 q12 q13 : Nat) (a1 : Int32) (f0 : Nat → Int32) (l0_31 : Int64) (l0_32 : Int64) (f1 : Nat → Int32) {res : Int32 × (Nat → Int32) × (Nat → Int32)} (h : pX7_put a1 f0 l0_31 l0_32 f1 = some res) : Cti l yX7_put wsX7_put (rmX7_put) D vwCl [(cA, .int)] [.ref q0, .int a1] (wdX7_1 cA q0 q1 q2 q3 q4 q5 q6 q7 q8 q9 q10 q11 q12 q13 f0 l0_31 l0_32 f1) (wdX7_1 cA q0 q1 q2 q3 q4 q5 q6 q7 q8 q9 q10 q11 q12 q13 res.2.1 l0_31 l0_32 res.2.2) 0 0 res.1 :=
  ct_i (maxL := 2) (cc := cX7_put) (by decide) rfl (Nat.le_of_ble_eq_true rfl) (fun p e s m below meth c C0 => bwX7_put C0 a1 f0 l0_31 l0_32 f1 h)
/-! PackDrawerModel.cut -/
abbrev wdX7_2 (cA : ClassId) (q0 q1 q2 q3 q4 q5 q6 q7 q8 q9 q10 q11 q12 q13 : Nat) (f0 : Nat → Int32) (l0_31 : Int64) (l0_32 : Int64) : va_W := [(q0, .inr (7, [.ref q1, .int (f0 1), .int (f0 2), .ref q2, .ref q3, .ref q4, .ref q5, .ref q6, .ref q7, .ref q8, .int (f0 10), .ref q9, .ref q10, .ref q11, .int (f0 14), .int (f0 15), .int (f0 16), .int (f0 17), .int (f0 18), .int (f0 19), .int (f0 20), .int (f0 21), .int (f0 22), .int (f0 23), .int (f0 24), .int (f0 25), .int (f0 26), .int (f0 27), .int (f0 28), .ref q12, .ref q13, .long l0_31, .long l0_32]))]
abbrev rmX7_cut : Room := { frames := 1, cells := 0, slots := 0, locals := 22 }
theorem lkX7_cut_53 : Cond.fieldLink RX7 53 RX7 (TX7 1).2.1 (TX7 1).2.2.1 ∈ wsX7_cut := by decide +kernel
theorem inX7_cut_X7 : ∀ w ∈ u_ws RX7 TX7 33, w ∈ wsX7_cut := by decide +kernel
def pX7_cut (a1 : Int32) (f0 : Nat → Int32) (l0_31 : Int64) (l0_32 : Int64) : Option (Int32 × (Nat → Int32)) := bd1 (pX7_in a1 (0 : Int32) (f0 1)) (fun r_1 => if r_1 = 0 then some ((-2 : Int32), f0) else lt_ (((f0 1) - a1)) (fun x_4 => lt_ (upd f0 1 a1) (fun f0_5 => some (x_4, f0_5))))
set_option maxHeartbeats 4000000 in
set_option maxRecDepth 100000 in
theorem bwX7_cut {p : Program} {l : Launch} {e : Env} {s : State} {m : MethodId} {args : Array Value} {below : List Frame} {meth : Method} {c : Code} {D : va_G} {A : Nat → Prop} {cA : ClassId} {q0 q1 q2 q3 q4 q5 q6 q7 q8 q9 q10 q11 q12 q13 : Nat} {res : Int32 × (Nat → Int32)} (C0 : cx p s m args meth c cX7_cut 3 RX7 wsX7_cut (some .int) D vwCl [(cA, .int)] A) (a1 : Int32) (f0 : Nat → Int32) (l0_31 : Int64) (l0_32 : Int64) (h : pX7_cut a1 f0 l0_31 l0_32 = some res) : At_ p l e (rmX7_cut) s m args below meth c D vwCl A 3 0 0 (Qi_ below args s D vwCl A (wdX7_2 cA q0 q1 q2 q3 q4 q5 q6 q7 q8 q9 q10 q11 q12 q13 res.2 l0_31 l0_32) res.1) 0 [(0, .ref q0), (1, .int a1)] [] (wdX7_2 cA q0 q1 q2 q3 q4 q5 q6 q7 q8 q9 q10 q11 q12 q13 f0 l0_31 l0_32) := by
  unfold pX7_cut at h
  refine a_iload_n C0 dX7_cut_0 rfl 1 rfl ?_
  refine a_iconst C0 (0 : Int32) dX7_cut_1 (by decide) ?_
  refine a_aload_n C0 dX7_cut_2 rfl 0 rfl ?_
  refine a_get C0 inX7_cut_X7 0 rfl rfl 1 (by decide) lkX7_cut_53 (fun _ h9 => h9) (.int (f0 1)) rfl dX7_cut_3 ?_
  obtain ⟨r_1, h_2, h⟩ := bd1_e h
  refine a_callSi C0 (wdX7_2 cA q0 q1 q2 q3 q4 q5 q6 q7 q8 q9 q10 q11 q12 q13 f0 l0_31 l0_32) (As := [.int a1, .int (0 : Int32), .int (f0 1)]) (rest := []) (ctX7_in l D cA a1 (0 : Int32) (f0 1) h_2) (cwS 3 C0.1.2.2.2.2 gX7_cut_X7_in rfl rfl rfl hdX7_in ⟨Nat.le_of_ble_eq_true rfl, Nat.le_of_ble_eq_true rfl⟩) [] [0] [0] rfl rfl rfl rfl (by decide) rfl rfl rfl rfl (Nat.le_of_ble_eq_true rfl) dX7_cut_6 ⟨Nat.zero_le _, Nat.zero_le _⟩ ?_
  refine a_if_ne C0 15 dX7_cut_9 (by decide) (fun c_3 => ?_) (fun c_3 => ?_)
  · have h := ie_ c_3 h
    refine a_aload_n C0 dX7_cut_15 rfl 0 rfl ?_
    refine a_get C0 inX7_cut_X7 0 rfl rfl 1 (by decide) lkX7_cut_53 (fun _ h9 => h9) (.int (f0 1)) rfl dX7_cut_16 ?_
    refine a_iload_n C0 dX7_cut_19 rfl 1 rfl ?_
    refine a_isub C0 dX7_cut_20 ?_
    obtain ⟨x_4, ex_4, h⟩ := lt_e h
    refine a_topi ex_4 ?_
    refine a_istore_n C0 [(2, .int x_4), (0, .ref q0), (1, .int a1)] dX7_cut_21 rfl (by decide) rfl ?_
    refine a_aload_n C0 dX7_cut_22 rfl 1 rfl ?_
    refine a_iload_n C0 dX7_cut_23 rfl 2 rfl ?_
    obtain ⟨f0_5, ef0_5, h⟩ := lt_e h
    refine a_put C0 inX7_cut_X7 tyX7 tyX7_ok nmX7 0 rfl rfl 1 (by decide) lkX7_cut_53 (fun _ h9 => h9) rfl (ty := .int) (v := .int a1) (by decide +kernel) rfl rfl (Nat.le_of_ble_eq_true rfl) dX7_cut_24 (wdX7_2 cA q0 q1 q2 q3 q4 q5 q6 q7 q8 q9 q10 q11 q12 q13 f0_5 l0_31 l0_32) (by subst ef0_5; rfl) ?_
    refine a_iload_n C0 dX7_cut_27 rfl 0 rfl ?_
    obtain rfl := Option.some.inj h
    exact a_iret C0 dX7_cut_28 rfl rfl
  · have h := it_ c_3 h
    refine a_bipush C0 (-2 : Int32) dX7_cut_12 (by decide) ?_
    obtain rfl := Option.some.inj h
    exact a_iret C0 dX7_cut_14 rfl rfl
set_option maxRecDepth 100000 in
theorem ctX7_cut (l : Launch) (D : va_G) (cA : ClassId) (q0 q1 q2 q3 q4 q5 q6 q7 q8 q9 q10 q11 q12 q13 : Nat) (a1 : Int32) (f0 : Nat → Int32) (l0_31 : Int64) (l0_32 : Int64) {res : Int32 × (Nat → Int32)} (h : pX7_cut a1 f0 l0_31 l0_32 = some res) : Cti l yX7_cut wsX7_cut (rmX7_cut) D vwCl [(cA, .int)] [.ref q0, .int a1] (wdX7_2 cA q0 q1 q2 q3 q4 q5 q6 q7 q8 q9 q10 q11 q12 q13 f0 l0_31 l0_32) (wdX7_2 cA q0 q1 q2 q3 q4 q5 q6 q7 q8 q9 q10 q11 q12 q13 res.2 l0_31 l0_32) 0 0 res.1 :=
  ct_i (maxL := 3) (cc := cX7_cut) (by decide) rfl (Nat.le_of_ble_eq_true rfl) (fun p e s m below meth c C0 => bwX7_cut C0 a1 f0 l0_31 l0_32 h)
/-! PackDrawerModel.poke -/
abbrev rmX7_poke : Room := { frames := 1, cells := 0, slots := 0, locals := 22 }
theorem lkX7_poke_53 : Cond.fieldLink RX7 53 RX7 (TX7 1).2.1 (TX7 1).2.2.1 ∈ wsX7_poke := by decide +kernel
theorem inX7_poke_X7 : ∀ w ∈ u_ws RX7 TX7 33, w ∈ wsX7_poke := by decide +kernel
theorem lkX7_poke_7 : Cond.fieldLink RX7 7 RX7 (TX7 0).2.1 (TX7 0).2.2.1 ∈ wsX7_poke := by decide +kernel
def pX7_poke (a1 : Int32) (a2 : Int32) (f0 : Nat → Int32) (l0_31 : Int64) (l0_32 : Int64) (f1 : Nat → Int32) : Option (Int32 × (Nat → Int32)) := bd1 (pX7_in a1 (0 : Int32) ((f0 1) - (1 : Int32))) (fun r_1 => if r_1 = 0 then some ((-2 : Int32), f1) else bd1 (pX7_in a2 (0 : Int32) (255 : Int32)) (fun r_4 => if r_4 = 0 then some ((-2 : Int32), f1) else gi_ a1 160 (lt_ ((f1 a1.toNatClampNeg)) (fun x_8 => gi_ a1 160 (lt_ (upd f1 a1.toNatClampNeg a2) (fun f1_10 => some (x_8, f1_10)))))))
set_option maxHeartbeats 4000000 in
set_option maxRecDepth 100000 in
theorem bwX7_poke {p : Program} {l : Launch} {e : Env} {s : State} {m : MethodId} {args : Array Value} {below : List Frame} {meth : Method} {c : Code} {D : va_G} {A : Nat → Prop} {cA : ClassId} {q0 q1 q2 q3 q4 q5 q6 q7 q8 q9 q10 q11 q12 q13 : Nat} {res : Int32 × (Nat → Int32)} (C0 : cx p s m args meth c cX7_poke 4 RX7 wsX7_poke (some .int) D vwCl [(cA, .int)] A) (a1 : Int32) (a2 : Int32) (f0 : Nat → Int32) (l0_31 : Int64) (l0_32 : Int64) (f1 : Nat → Int32) (h : pX7_poke a1 a2 f0 l0_31 l0_32 f1 = some res) : At_ p l e (rmX7_poke) s m args below meth c D vwCl A 4 0 0 (Qi_ below args s D vwCl A (wdX7_1 cA q0 q1 q2 q3 q4 q5 q6 q7 q8 q9 q10 q11 q12 q13 f0 l0_31 l0_32 res.2) res.1) 0 [(0, .ref q0), (1, .int a1), (2, .int a2)] [] (wdX7_1 cA q0 q1 q2 q3 q4 q5 q6 q7 q8 q9 q10 q11 q12 q13 f0 l0_31 l0_32 f1) := by
  unfold pX7_poke at h
  refine a_iload_n C0 dX7_poke_0 rfl 1 rfl ?_
  refine a_iconst C0 (0 : Int32) dX7_poke_1 (by decide) ?_
  refine a_aload_n C0 dX7_poke_2 rfl 0 rfl ?_
  refine a_get C0 inX7_poke_X7 0 rfl rfl 1 (by decide) lkX7_poke_53 (fun _ h9 => h9) (.int (f0 1)) rfl dX7_poke_3 ?_
  refine a_iconst C0 (1 : Int32) dX7_poke_6 (by decide) ?_
  refine a_isub C0 dX7_poke_7 ?_
  obtain ⟨r_1, h_2, h⟩ := bd1_e h
  refine a_callSi C0 (wdX7_1 cA q0 q1 q2 q3 q4 q5 q6 q7 q8 q9 q10 q11 q12 q13 f0 l0_31 l0_32 f1) (As := [.int a1, .int (0 : Int32), .int ((f0 1) - (1 : Int32))]) (rest := []) (ctX7_in l D cA a1 (0 : Int32) ((f0 1) - (1 : Int32)) h_2) (cwS 3 C0.1.2.2.2.2 gX7_poke_X7_in rfl rfl rfl hdX7_in ⟨Nat.le_of_ble_eq_true rfl, Nat.le_of_ble_eq_true rfl⟩) [] [0, 1] [0, 1] rfl rfl rfl rfl (by decide) rfl rfl rfl rfl (Nat.le_of_ble_eq_true rfl) dX7_poke_8 ⟨Nat.zero_le _, Nat.zero_le _⟩ ?_
  refine a_if_eq C0 25 dX7_poke_11 (by decide) (fun c_3 => ?_) (fun c_3 => ?_)
  · have h := it_ c_3 h
    refine a_bipush C0 (-2 : Int32) dX7_poke_25 (by decide) ?_
    obtain rfl := Option.some.inj h
    exact a_iret C0 dX7_poke_27 rfl rfl
  · have h := ie_ c_3 h
    refine a_iload_n C0 dX7_poke_14 rfl 2 rfl ?_
    refine a_iconst C0 (0 : Int32) dX7_poke_15 (by decide) ?_
    refine a_sipush C0 (255 : Int32) dX7_poke_16 (by decide) ?_
    obtain ⟨r_4, h_5, h⟩ := bd1_e h
    refine a_callSi C0 (wdX7_1 cA q0 q1 q2 q3 q4 q5 q6 q7 q8 q9 q10 q11 q12 q13 f0 l0_31 l0_32 f1) (As := [.int a2, .int (0 : Int32), .int (255 : Int32)]) (rest := []) (ctX7_in l D cA a2 (0 : Int32) (255 : Int32) h_5) (cwS 3 C0.1.2.2.2.2 gX7_poke_X7_in rfl rfl rfl hdX7_in ⟨Nat.le_of_ble_eq_true rfl, Nat.le_of_ble_eq_true rfl⟩) [] [0, 1] [0, 1] rfl rfl rfl rfl (by decide) rfl rfl rfl rfl (Nat.le_of_ble_eq_true rfl) dX7_poke_19 ⟨Nat.zero_le _, Nat.zero_le _⟩ ?_
    refine a_if_ne C0 28 dX7_poke_22 (by decide) (fun c_6 => ?_) (fun c_6 => ?_)
    · have h := ie_ c_6 h
      refine a_aload_n C0 dX7_poke_28 rfl 0 rfl ?_
      refine a_get C0 inX7_poke_X7 0 rfl rfl 0 (by decide) lkX7_poke_7 (fun _ h9 => h9) (.ref q1) rfl dX7_poke_29 ?_
      refine a_iload_n C0 dX7_poke_32 rfl 1 rfl ?_
      obtain ⟨g_7, h⟩ := gi_e h
      refine a_iald C0 1 0 rfl rfl g_7 dX7_poke_33 ?_
      obtain ⟨x_8, ex_8, h⟩ := lt_e h
      refine a_topi ex_8 ?_
      refine a_istore_n C0 [(3, .int x_8), (0, .ref q0), (1, .int a1), (2, .int a2)] dX7_poke_34 rfl (by decide) rfl ?_
      refine a_aload_n C0 dX7_poke_35 rfl 1 rfl ?_
      refine a_get C0 inX7_poke_X7 0 rfl rfl 0 (by decide) lkX7_poke_7 (fun _ h9 => h9) (.ref q1) rfl dX7_poke_36 ?_
      refine a_iload_n C0 dX7_poke_39 rfl 2 rfl ?_
      refine a_iload_n C0 dX7_poke_40 rfl 3 rfl ?_
      obtain ⟨g_9, h⟩ := gi_e h
      obtain ⟨f1_10, ef1_10, h⟩ := lt_e h
      refine a_iast C0 1 0 rfl rfl g_9 dX7_poke_41 (wdX7_1 cA q0 q1 q2 q3 q4 q5 q6 q7 q8 q9 q10 q11 q12 q13 f0 l0_31 l0_32 f1_10) (by subst ef1_10; rfl) ?_
      refine a_iload_n C0 dX7_poke_42 rfl 0 rfl ?_
      obtain rfl := Option.some.inj h
      exact a_iret C0 dX7_poke_43 rfl rfl
    · have h := it_ c_6 h
      refine a_bipush C0 (-2 : Int32) dX7_poke_25 (by decide) ?_
      obtain rfl := Option.some.inj h
      exact a_iret C0 dX7_poke_27 rfl rfl
set_option maxRecDepth 100000 in
theorem ctX7_poke (l : Launch) (D : va_G) (cA : ClassId) (q0 q1 q2 q3 q4 q5 q6 q7 q8 q9 q10 q11 q12 q13 : Nat) (a1 : Int32) (a2 : Int32) (f0 : Nat → Int32) (l0_31 : Int64) (l0_32 : Int64) (f1 : Nat → Int32) {res : Int32 × (Nat → Int32)} (h : pX7_poke a1 a2 f0 l0_31 l0_32 f1 = some res) : Cti l yX7_poke wsX7_poke (rmX7_poke) D vwCl [(cA, .int)] [.ref q0, .int a1, .int a2] (wdX7_1 cA q0 q1 q2 q3 q4 q5 q6 q7 q8 q9 q10 q11 q12 q13 f0 l0_31 l0_32 f1) (wdX7_1 cA q0 q1 q2 q3 q4 q5 q6 q7 q8 q9 q10 q11 q12 q13 f0 l0_31 l0_32 res.2) 0 0 res.1 :=
  ct_i (maxL := 4) (cc := cX7_poke) (by decide) rfl (Nat.le_of_ble_eq_true rfl) (fun p e s m below meth c C0 => bwX7_poke C0 a1 a2 f0 l0_31 l0_32 f1 h)
/-! PackDrawerModel.at -/
abbrev rmX7_at : Room := { frames := 1, cells := 0, slots := 0, locals := 22 }
theorem lkX7_at_53 : Cond.fieldLink RX7 53 RX7 (TX7 1).2.1 (TX7 1).2.2.1 ∈ wsX7_at := by decide +kernel
theorem inX7_at_X7 : ∀ w ∈ u_ws RX7 TX7 33, w ∈ wsX7_at := by decide +kernel
theorem lkX7_at_7 : Cond.fieldLink RX7 7 RX7 (TX7 0).2.1 (TX7 0).2.2.1 ∈ wsX7_at := by decide +kernel
def pX7_at (a1 : Int32) (f0 : Nat → Int32) (l0_31 : Int64) (l0_32 : Int64) (f1 : Nat → Int32) : Option (Int32) := bd1 (pX7_in a1 (0 : Int32) ((f0 1) - (1 : Int32))) (fun r_1 => if r_1 = 0 then some (-1 : Int32) else gi_ a1 160 (some (f1 a1.toNatClampNeg)))
set_option maxHeartbeats 4000000 in
set_option maxRecDepth 100000 in
theorem bwX7_at {p : Program} {l : Launch} {e : Env} {s : State} {m : MethodId} {args : Array Value} {below : List Frame} {meth : Method} {c : Code} {D : va_G} {A : Nat → Prop} {cA : ClassId} {q0 q1 q2 q3 q4 q5 q6 q7 q8 q9 q10 q11 q12 q13 : Nat} {res : Int32} (C0 : cx p s m args meth c cX7_at 2 RX7 wsX7_at (some .int) D vwCl [(cA, .int)] A) (a1 : Int32) (f0 : Nat → Int32) (l0_31 : Int64) (l0_32 : Int64) (f1 : Nat → Int32) (h : pX7_at a1 f0 l0_31 l0_32 f1 = some res) : At_ p l e (rmX7_at) s m args below meth c D vwCl A 2 0 0 (Qi_ below args s D vwCl A (wdX7_1 cA q0 q1 q2 q3 q4 q5 q6 q7 q8 q9 q10 q11 q12 q13 f0 l0_31 l0_32 f1) res) 0 [(0, .ref q0), (1, .int a1)] [] (wdX7_1 cA q0 q1 q2 q3 q4 q5 q6 q7 q8 q9 q10 q11 q12 q13 f0 l0_31 l0_32 f1) := by
  unfold pX7_at at h
  refine a_iload_n C0 dX7_at_0 rfl 1 rfl ?_
  refine a_iconst C0 (0 : Int32) dX7_at_1 (by decide) ?_
  refine a_aload_n C0 dX7_at_2 rfl 0 rfl ?_
  refine a_get C0 inX7_at_X7 0 rfl rfl 1 (by decide) lkX7_at_53 (fun _ h9 => h9) (.int (f0 1)) rfl dX7_at_3 ?_
  refine a_iconst C0 (1 : Int32) dX7_at_6 (by decide) ?_
  refine a_isub C0 dX7_at_7 ?_
  obtain ⟨r_1, h_2, h⟩ := bd1_e h
  refine a_callSi C0 (wdX7_1 cA q0 q1 q2 q3 q4 q5 q6 q7 q8 q9 q10 q11 q12 q13 f0 l0_31 l0_32 f1) (As := [.int a1, .int (0 : Int32), .int ((f0 1) - (1 : Int32))]) (rest := []) (ctX7_in l D cA a1 (0 : Int32) ((f0 1) - (1 : Int32)) h_2) (cwS 3 C0.1.2.2.2.2 gX7_at_X7_in rfl rfl rfl hdX7_in ⟨Nat.le_of_ble_eq_true rfl, Nat.le_of_ble_eq_true rfl⟩) [] [0, 1] [0, 1] rfl rfl rfl rfl (by decide) rfl rfl rfl rfl (Nat.le_of_ble_eq_true rfl) dX7_at_8 ⟨Nat.zero_le _, Nat.zero_le _⟩ ?_
  refine a_if_eq C0 23 dX7_at_11 (by decide) (fun c_3 => ?_) (fun c_3 => ?_)
  · have h := it_ c_3 h
    refine a_iconst C0 (-1 : Int32) dX7_at_23 (by decide) ?_
    obtain rfl := Option.some.inj h
    exact a_iret C0 dX7_at_24 rfl rfl
  · have h := ie_ c_3 h
    refine a_aload_n C0 dX7_at_14 rfl 0 rfl ?_
    refine a_get C0 inX7_at_X7 0 rfl rfl 0 (by decide) lkX7_at_7 (fun _ h9 => h9) (.ref q1) rfl dX7_at_15 ?_
    refine a_iload_n C0 dX7_at_18 rfl 1 rfl ?_
    obtain ⟨g_4, h⟩ := gi_e h
    refine a_iald C0 1 0 rfl rfl g_4 dX7_at_19 ?_
    refine a_goto C0 24 dX7_at_20 (by decide) ?_
    obtain rfl := Option.some.inj h
    exact a_iret C0 dX7_at_24 rfl rfl
set_option maxRecDepth 100000 in
theorem ctX7_at (l : Launch) (D : va_G) (cA : ClassId) (q0 q1 q2 q3 q4 q5 q6 q7 q8 q9 q10 q11 q12 q13 : Nat) (a1 : Int32) (f0 : Nat → Int32) (l0_31 : Int64) (l0_32 : Int64) (f1 : Nat → Int32) {res : Int32} (h : pX7_at a1 f0 l0_31 l0_32 f1 = some res) : Cti l yX7_at wsX7_at (rmX7_at) D vwCl [(cA, .int)] [.ref q0, .int a1] (wdX7_1 cA q0 q1 q2 q3 q4 q5 q6 q7 q8 q9 q10 q11 q12 q13 f0 l0_31 l0_32 f1) (wdX7_1 cA q0 q1 q2 q3 q4 q5 q6 q7 q8 q9 q10 q11 q12 q13 f0 l0_31 l0_32 f1) 0 0 res :=
  ct_i (maxL := 2) (cc := cX7_at) (by decide) rfl (Nat.le_of_ble_eq_true rfl) (fun p e s m below meth c C0 => bwX7_at C0 a1 f0 l0_31 l0_32 f1 h)
/-! PackDrawerModel.length -/
abbrev rmX7_length : Room := { frames := 0, cells := 0, slots := 0, locals := 0 }
theorem lkX7_length_53 : Cond.fieldLink RX7 53 RX7 (TX7 1).2.1 (TX7 1).2.2.1 ∈ wsX7_length := by decide +kernel
theorem inX7_length_X7 : ∀ w ∈ u_ws RX7 TX7 33, w ∈ wsX7_length := by decide +kernel
def pX7_length (f0 : Nat → Int32) (l0_31 : Int64) (l0_32 : Int64) : Option (Int32) := some (f0 1)
set_option maxHeartbeats 4000000 in
set_option maxRecDepth 100000 in
theorem bwX7_length {p : Program} {l : Launch} {e : Env} {s : State} {m : MethodId} {args : Array Value} {below : List Frame} {meth : Method} {c : Code} {D : va_G} {A : Nat → Prop} {cA : ClassId} {q0 q1 q2 q3 q4 q5 q6 q7 q8 q9 q10 q11 q12 q13 : Nat} {res : Int32} (C0 : cx p s m args meth c cX7_length 1 RX7 wsX7_length (some .int) D vwCl [(cA, .int)] A) (f0 : Nat → Int32) (l0_31 : Int64) (l0_32 : Int64) (h : pX7_length f0 l0_31 l0_32 = some res) : At_ p l e (rmX7_length) s m args below meth c D vwCl A 1 0 0 (Qi_ below args s D vwCl A (wdX7_2 cA q0 q1 q2 q3 q4 q5 q6 q7 q8 q9 q10 q11 q12 q13 f0 l0_31 l0_32) res) 0 [(0, .ref q0)] [] (wdX7_2 cA q0 q1 q2 q3 q4 q5 q6 q7 q8 q9 q10 q11 q12 q13 f0 l0_31 l0_32) := by
  unfold pX7_length at h
  refine a_aload_n C0 dX7_length_0 rfl 0 rfl ?_
  refine a_get C0 inX7_length_X7 0 rfl rfl 1 (by decide) lkX7_length_53 (fun _ h9 => h9) (.int (f0 1)) rfl dX7_length_1 ?_
  obtain rfl := Option.some.inj h
  exact a_iret C0 dX7_length_4 rfl rfl
set_option maxRecDepth 100000 in
theorem ctX7_length (l : Launch) (D : va_G) (cA : ClassId) (q0 q1 q2 q3 q4 q5 q6 q7 q8 q9 q10 q11 q12 q13 : Nat) (f0 : Nat → Int32) (l0_31 : Int64) (l0_32 : Int64) {res : Int32} (h : pX7_length f0 l0_31 l0_32 = some res) : Cti l yX7_length wsX7_length (rmX7_length) D vwCl [(cA, .int)] [.ref q0] (wdX7_2 cA q0 q1 q2 q3 q4 q5 q6 q7 q8 q9 q10 q11 q12 q13 f0 l0_31 l0_32) (wdX7_2 cA q0 q1 q2 q3 q4 q5 q6 q7 q8 q9 q10 q11 q12 q13 f0 l0_31 l0_32) 0 0 res :=
  ct_i (maxL := 1) (cc := cX7_length) (by decide) rfl (Nat.le_of_ble_eq_true rfl) (fun p e s m below meth c C0 => bwX7_length C0 f0 l0_31 l0_32 h)
/-! PackDrawerModel.fault -/
abbrev rmX7_fault : Room := { frames := 0, cells := 0, slots := 0, locals := 0 }
theorem lkX7_fault_57 : Cond.fieldLink RX7 57 RX7 (TX7 16).2.1 (TX7 16).2.2.1 ∈ wsX7_fault := by decide +kernel
theorem inX7_fault_X7 : ∀ w ∈ u_ws RX7 TX7 33, w ∈ wsX7_fault := by decide +kernel
theorem lkX7_fault_60 : Cond.fieldLink RX7 60 RX7 (TX7 17).2.1 (TX7 17).2.2.1 ∈ wsX7_fault := by decide +kernel
def pX7_fault (a1 : Int32) (a2 : Int32) (f0 : Nat → Int32) (l0_31 : Int64) (l0_32 : Int64) : Option ((Nat → Int32)) := lt_ (upd f0 16 a1) (fun f0_1 => lt_ (upd f0_1 17 a2) (fun f0_2 => some f0_2))
set_option maxHeartbeats 4000000 in
set_option maxRecDepth 100000 in
theorem bwX7_fault {p : Program} {l : Launch} {e : Env} {s : State} {m : MethodId} {args : Array Value} {below : List Frame} {meth : Method} {c : Code} {D : va_G} {A : Nat → Prop} {cA : ClassId} {q0 q1 q2 q3 q4 q5 q6 q7 q8 q9 q10 q11 q12 q13 : Nat} {res : (Nat → Int32)} (C0 : cx p s m args meth c cX7_fault 3 RX7 wsX7_fault none D vwCl [(cA, .int)] A) (a1 : Int32) (a2 : Int32) (f0 : Nat → Int32) (l0_31 : Int64) (l0_32 : Int64) (h : pX7_fault a1 a2 f0 l0_31 l0_32 = some res) : At_ p l e (rmX7_fault) s m args below meth c D vwCl A 3 0 0 (Qv_ below args s D vwCl A (wdX7_2 cA q0 q1 q2 q3 q4 q5 q6 q7 q8 q9 q10 q11 q12 q13 res l0_31 l0_32)) 0 [(0, .ref q0), (1, .int a1), (2, .int a2)] [] (wdX7_2 cA q0 q1 q2 q3 q4 q5 q6 q7 q8 q9 q10 q11 q12 q13 f0 l0_31 l0_32) := by
  unfold pX7_fault at h
  refine a_aload_n C0 dX7_fault_0 rfl 0 rfl ?_
  refine a_iload_n C0 dX7_fault_1 rfl 1 rfl ?_
  obtain ⟨f0_1, ef0_1, h⟩ := lt_e h
  refine a_put C0 inX7_fault_X7 tyX7 tyX7_ok nmX7 0 rfl rfl 16 (by decide) lkX7_fault_57 (fun _ h9 => h9) rfl (ty := .int) (v := .int a1) (by decide +kernel) rfl rfl (Nat.le_of_ble_eq_true rfl) dX7_fault_2 (wdX7_2 cA q0 q1 q2 q3 q4 q5 q6 q7 q8 q9 q10 q11 q12 q13 f0_1 l0_31 l0_32) (by subst ef0_1; rfl) ?_
  refine a_aload_n C0 dX7_fault_5 rfl 0 rfl ?_
  refine a_iload_n C0 dX7_fault_6 rfl 2 rfl ?_
  obtain ⟨f0_2, ef0_2, h⟩ := lt_e h
  refine a_put C0 inX7_fault_X7 tyX7 tyX7_ok nmX7 0 rfl rfl 17 (by decide) lkX7_fault_60 (fun _ h9 => h9) rfl (ty := .int) (v := .int a2) (by decide +kernel) rfl rfl (Nat.le_of_ble_eq_true rfl) dX7_fault_7 (wdX7_2 cA q0 q1 q2 q3 q4 q5 q6 q7 q8 q9 q10 q11 q12 q13 f0_2 l0_31 l0_32) (by subst ef0_2; rfl) ?_
  obtain rfl := Option.some.inj h
  exact a_vret C0 dX7_fault_10 rfl
set_option maxRecDepth 100000 in
theorem ctX7_fault (l : Launch) (D : va_G) (cA : ClassId) (q0 q1 q2 q3 q4 q5 q6 q7 q8 q9 q10 q11 q12 q13 : Nat) (a1 : Int32) (a2 : Int32) (f0 : Nat → Int32) (l0_31 : Int64) (l0_32 : Int64) {res : (Nat → Int32)} (h : pX7_fault a1 a2 f0 l0_31 l0_32 = some res) : Ctv l yX7_fault wsX7_fault (rmX7_fault) D vwCl [(cA, .int)] [.ref q0, .int a1, .int a2] (wdX7_2 cA q0 q1 q2 q3 q4 q5 q6 q7 q8 q9 q10 q11 q12 q13 f0 l0_31 l0_32) (wdX7_2 cA q0 q1 q2 q3 q4 q5 q6 q7 q8 q9 q10 q11 q12 q13 res l0_31 l0_32) 0 0 :=
  ct_n (S := Unit) (maxL := 3) (cc := cX7_fault) (by decide) rfl (Nat.le_of_ble_eq_true rfl) (fun p e s m below meth c _ C0 => bwX7_fault C0 a1 a2 f0 l0_31 l0_32 h)
/-! PackDrawerModel.has -/
abbrev wdX7_3 (cA : ClassId) (q0 q1 q2 q3 q4 q5 q6 q7 q8 q9 q10 q11 q12 q13 : Nat) (f0 : Nat → Int32) (l0_31 : Int64) (l0_32 : Int64) (f4 : Nat → Int32) (f6 : Nat → Int32) : va_W := [(q0, .inr (7, [.ref q1, .int (f0 1), .int (f0 2), .ref q2, .ref q3, .ref q4, .ref q5, .ref q6, .ref q7, .ref q8, .int (f0 10), .ref q9, .ref q10, .ref q11, .int (f0 14), .int (f0 15), .int (f0 16), .int (f0 17), .int (f0 18), .int (f0 19), .int (f0 20), .int (f0 21), .int (f0 22), .int (f0 23), .int (f0 24), .int (f0 25), .int (f0 26), .int (f0 27), .int (f0 28), .ref q12, .ref q13, .long l0_31, .long l0_32])), (q4, .inl (cA, 6, .inl f4)), (q6, .inl (cA, 6, .inl f6))]
theorem hdX7_fault : yX7_fault.cls = RX7 ∧ yX7_fault.cls ≠ "java/lang/invoke/MethodHandle" ∧ yX7_fault.cls ≠ "java/lang/invoke/VarHandle" ∧ (parseMethodDescriptor yX7_fault.desc).map (fun d => d.parameters.length) = some 2 := by decide +kernel
abbrev rmX7_has : Room := { frames := 1, cells := 0, slots := 0, locals := 22 }
theorem lkX7_has_63 : Cond.fieldLink RX7 63 RX7 (TX7 14).2.1 (TX7 14).2.2.1 ∈ wsX7_has := by decide +kernel
theorem inX7_has_X7 : ∀ w ∈ u_ws RX7 TX7 33, w ∈ wsX7_has := by decide +kernel
theorem lkX7_has_19 : Cond.fieldLink RX7 19 RX7 (TX7 5).2.1 (TX7 5).2.2.1 ∈ wsX7_has := by decide +kernel
theorem lkX7_has_66 : Cond.fieldLink RX7 66 RX7 (TX7 2).2.1 (TX7 2).2.2.1 ∈ wsX7_has := by decide +kernel
theorem lkX7_has_53 : Cond.fieldLink RX7 53 RX7 (TX7 1).2.1 (TX7 1).2.2.1 ∈ wsX7_has := by decide +kernel
theorem lkX7_has_25 : Cond.fieldLink RX7 25 RX7 (TX7 7).2.1 (TX7 7).2.2.1 ∈ wsX7_has := by decide +kernel
def pX7_has (a1 : Int32) (f0 : Nat → Int32) (l0_31 : Int64) (l0_32 : Int64) (f4 : Nat → Int32) (f6 : Nat → Int32) : Option (Int32 × (Nat → Int32)) := gi_ (f0 2) 6 (if (f4 (f0 2).toNatClampNeg) < ((f0 14) + a1) then if (f0 2) ≤ 0 then bd1 (pX7_fault (1 : Int32) (f0 1) f0 l0_31 l0_32) (fun f0_4 => some ((0 : Int32), f0_4)) else gi_ (f0 2) 6 (bd1 (pX7_fault (2 : Int32) (f6 (f0 2).toNatClampNeg) f0 l0_31 l0_32) (fun f0_7 => some ((0 : Int32), f0_7))) else some ((1 : Int32), f0))
set_option maxHeartbeats 4000000 in
set_option maxRecDepth 100000 in
theorem bwX7_has {p : Program} {l : Launch} {e : Env} {s : State} {m : MethodId} {args : Array Value} {below : List Frame} {meth : Method} {c : Code} {D : va_G} {A : Nat → Prop} {cA : ClassId} {q0 q1 q2 q3 q4 q5 q6 q7 q8 q9 q10 q11 q12 q13 : Nat} {res : Int32 × (Nat → Int32)} (C0 : cx p s m args meth c cX7_has 2 RX7 wsX7_has (some .boolean) D vwCl [(cA, .int)] A) (a1 : Int32) (f0 : Nat → Int32) (l0_31 : Int64) (l0_32 : Int64) (f4 : Nat → Int32) (f6 : Nat → Int32) (h : pX7_has a1 f0 l0_31 l0_32 f4 f6 = some res) : At_ p l e (rmX7_has) s m args below meth c D vwCl A 2 0 0 (Qi_ below args s D vwCl A (wdX7_3 cA q0 q1 q2 q3 q4 q5 q6 q7 q8 q9 q10 q11 q12 q13 res.2 l0_31 l0_32 f4 f6) res.1) 0 [(0, .ref q0), (1, .int a1)] [] (wdX7_3 cA q0 q1 q2 q3 q4 q5 q6 q7 q8 q9 q10 q11 q12 q13 f0 l0_31 l0_32 f4 f6) := by
  unfold pX7_has at h
  refine a_aload_n C0 dX7_has_0 rfl 0 rfl ?_
  refine a_get C0 inX7_has_X7 0 rfl rfl 14 (by decide) lkX7_has_63 (fun _ h9 => h9) (.int (f0 14)) rfl dX7_has_1 ?_
  refine a_iload_n C0 dX7_has_4 rfl 1 rfl ?_
  refine a_iadd C0 dX7_has_5 ?_
  refine a_aload_n C0 dX7_has_6 rfl 0 rfl ?_
  refine a_get C0 inX7_has_X7 0 rfl rfl 5 (by decide) lkX7_has_19 (fun _ h9 => h9) (.ref q4) rfl dX7_has_7 ?_
  refine a_aload_n C0 dX7_has_10 rfl 0 rfl ?_
  refine a_get C0 inX7_has_X7 0 rfl rfl 2 (by decide) lkX7_has_66 (fun _ h9 => h9) (.int (f0 2)) rfl dX7_has_11 ?_
  obtain ⟨g_1, h⟩ := gi_e h
  refine a_iald C0 1 0 rfl rfl g_1 dX7_has_14 ?_
  refine a_icmp_gt C0 20 dX7_has_15 (by decide) (fun c_2 => ?_) (fun c_2 => ?_)
  · have h := it_ c_2 h
    refine a_aload_n C0 dX7_has_20 rfl 0 rfl ?_
    refine a_get C0 inX7_has_X7 0 rfl rfl 2 (by decide) lkX7_has_66 (fun _ h9 => h9) (.int (f0 2)) rfl dX7_has_21 ?_
    refine a_if_le C0 44 dX7_has_24 (by decide) (fun c_3 => ?_) (fun c_3 => ?_)
    · have h := it_ c_3 h
      refine a_aload_n C0 dX7_has_44 rfl 0 rfl ?_
      refine a_iconst C0 (1 : Int32) dX7_has_45 (by decide) ?_
      refine a_aload_n C0 dX7_has_46 rfl 0 rfl ?_
      refine a_get C0 inX7_has_X7 0 rfl rfl 1 (by decide) lkX7_has_53 (fun _ h9 => h9) (.int (f0 1)) rfl dX7_has_47 ?_
      obtain ⟨f0_4, h_5, h⟩ := bd1_e h
      refine a_callVv C0 (wdX7_3 cA q0 q1 q2 q3 q4 q5 q6 q7 q8 q9 q10 q11 q12 q13 f0_4 l0_31 l0_32 f4 f6) (As := [.int (1 : Int32), .int (f0 1)]) (rest := []) (ctX7_fault l D cA q0 q1 q2 q3 q4 q5 q6 q7 q8 q9 q10 q11 q12 q13 (1 : Int32) (f0 1) f0 l0_31 l0_32 h_5) (cwV 2 C0.1.2.2.2.2 gX7_has_X7_fault rfl rfl rfl hdX7_fault ⟨Nat.le_of_ble_eq_true rfl, Nat.le_of_ble_eq_true rfl⟩) [0] [1, 2] [2, 0, 1] rfl rfl rfl rfl (by decide) rfl rfl rfl rfl rfl rfl (Nat.le_of_ble_eq_true rfl) dX7_has_50 ⟨Nat.zero_le _, Nat.zero_le _⟩ ?_
      refine a_iconst C0 (0 : Int32) dX7_has_53 (by decide) ?_
      obtain rfl := Option.some.inj h
      exact a_zret C0 dX7_has_54 rfl rfl rfl
    · have h := ie_ c_3 h
      refine a_aload_n C0 dX7_has_27 rfl 0 rfl ?_
      refine a_iconst C0 (2 : Int32) dX7_has_28 (by decide) ?_
      refine a_aload_n C0 dX7_has_29 rfl 0 rfl ?_
      refine a_get C0 inX7_has_X7 0 rfl rfl 7 (by decide) lkX7_has_25 (fun _ h9 => h9) (.ref q6) rfl dX7_has_30 ?_
      refine a_aload_n C0 dX7_has_33 rfl 0 rfl ?_
      refine a_get C0 inX7_has_X7 0 rfl rfl 2 (by decide) lkX7_has_66 (fun _ h9 => h9) (.int (f0 2)) rfl dX7_has_34 ?_
      obtain ⟨g_6, h⟩ := gi_e h
      refine a_iald C0 2 0 rfl rfl g_6 dX7_has_37 ?_
      obtain ⟨f0_7, h_8, h⟩ := bd1_e h
      refine a_callVv C0 (wdX7_3 cA q0 q1 q2 q3 q4 q5 q6 q7 q8 q9 q10 q11 q12 q13 f0_7 l0_31 l0_32 f4 f6) (As := [.int (2 : Int32), .int (f6 (f0 2).toNatClampNeg)]) (rest := []) (ctX7_fault l D cA q0 q1 q2 q3 q4 q5 q6 q7 q8 q9 q10 q11 q12 q13 (2 : Int32) (f6 (f0 2).toNatClampNeg) f0 l0_31 l0_32 h_8) (cwV 2 C0.1.2.2.2.2 gX7_has_X7_fault rfl rfl rfl hdX7_fault ⟨Nat.le_of_ble_eq_true rfl, Nat.le_of_ble_eq_true rfl⟩) [0] [1, 2] [2, 0, 1] rfl rfl rfl rfl (by decide) rfl rfl rfl rfl rfl rfl (Nat.le_of_ble_eq_true rfl) dX7_has_38 ⟨Nat.zero_le _, Nat.zero_le _⟩ ?_
      refine a_goto C0 53 dX7_has_41 (by decide) ?_
      refine a_iconst C0 (0 : Int32) dX7_has_53 (by decide) ?_
      obtain rfl := Option.some.inj h
      exact a_zret C0 dX7_has_54 rfl rfl rfl
  · have h := ie_ c_2 h
    refine a_iconst C0 (1 : Int32) dX7_has_18 (by decide) ?_
    obtain rfl := Option.some.inj h
    exact a_zret C0 dX7_has_19 rfl rfl rfl
set_option maxRecDepth 100000 in
theorem ctX7_has (l : Launch) (D : va_G) (cA : ClassId) (q0 q1 q2 q3 q4 q5 q6 q7 q8 q9 q10 q11 q12 q13 : Nat) (a1 : Int32) (f0 : Nat → Int32) (l0_31 : Int64) (l0_32 : Int64) (f4 : Nat → Int32) (f6 : Nat → Int32) {res : Int32 × (Nat → Int32)} (h : pX7_has a1 f0 l0_31 l0_32 f4 f6 = some res) : Cti l yX7_has wsX7_has (rmX7_has) D vwCl [(cA, .int)] [.ref q0, .int a1] (wdX7_3 cA q0 q1 q2 q3 q4 q5 q6 q7 q8 q9 q10 q11 q12 q13 f0 l0_31 l0_32 f4 f6) (wdX7_3 cA q0 q1 q2 q3 q4 q5 q6 q7 q8 q9 q10 q11 q12 q13 res.2 l0_31 l0_32 f4 f6) 0 0 res.1 :=
  ct_i (maxL := 2) (cc := cX7_has) (by decide) rfl (Nat.le_of_ble_eq_true rfl) (fun p e s m below meth c C0 => bwX7_has C0 a1 f0 l0_31 l0_32 f4 f6 h)
/-! PackDrawerModel.steps -/
abbrev rmX7_steps : Room := { frames := 1, cells := 0, slots := 0, locals := 22 }
theorem lkX7_steps_73 : Cond.fieldLink RX7 73 RX7 (TX7 18).2.1 (TX7 18).2.2.1 ∈ wsX7_steps := by decide +kernel
theorem inX7_steps_X7 : ∀ w ∈ u_ws RX7 TX7 33, w ∈ wsX7_steps := by decide +kernel
theorem lkX7_steps_76 : Cond.fieldLink RX7 76 RX7 (TX7 25).2.1 (TX7 25).2.2.1 ∈ wsX7_steps := by decide +kernel
def pX7_steps (a1 : Int32) (f0 : Nat → Int32) (l0_31 : Int64) (l0_32 : Int64) : Option (Int32 × (Nat → Int32)) := if (f0 18) = (f0 25) then bd1 (pX7_fault (9 : Int32) a1 f0 l0_31 l0_32) (fun f0_2 => some ((0 : Int32), f0_2)) else some ((1 : Int32), f0)
set_option maxHeartbeats 4000000 in
set_option maxRecDepth 100000 in
theorem bwX7_steps {p : Program} {l : Launch} {e : Env} {s : State} {m : MethodId} {args : Array Value} {below : List Frame} {meth : Method} {c : Code} {D : va_G} {A : Nat → Prop} {cA : ClassId} {q0 q1 q2 q3 q4 q5 q6 q7 q8 q9 q10 q11 q12 q13 : Nat} {res : Int32 × (Nat → Int32)} (C0 : cx p s m args meth c cX7_steps 2 RX7 wsX7_steps (some .boolean) D vwCl [(cA, .int)] A) (a1 : Int32) (f0 : Nat → Int32) (l0_31 : Int64) (l0_32 : Int64) (h : pX7_steps a1 f0 l0_31 l0_32 = some res) : At_ p l e (rmX7_steps) s m args below meth c D vwCl A 2 0 0 (Qi_ below args s D vwCl A (wdX7_2 cA q0 q1 q2 q3 q4 q5 q6 q7 q8 q9 q10 q11 q12 q13 res.2 l0_31 l0_32) res.1) 0 [(0, .ref q0), (1, .int a1)] [] (wdX7_2 cA q0 q1 q2 q3 q4 q5 q6 q7 q8 q9 q10 q11 q12 q13 f0 l0_31 l0_32) := by
  unfold pX7_steps at h
  refine a_aload_n C0 dX7_steps_0 rfl 0 rfl ?_
  refine a_get C0 inX7_steps_X7 0 rfl rfl 18 (by decide) lkX7_steps_73 (fun _ h9 => h9) (.int (f0 18)) rfl dX7_steps_1 ?_
  refine a_aload_n C0 dX7_steps_4 rfl 0 rfl ?_
  refine a_get C0 inX7_steps_X7 0 rfl rfl 25 (by decide) lkX7_steps_76 (fun _ h9 => h9) (.int (f0 25)) rfl dX7_steps_5 ?_
  refine a_icmp_ne C0 20 dX7_steps_8 (by decide) (fun c_1 => ?_) (fun c_1 => ?_)
  · have h := ie_ c_1 h
    refine a_iconst C0 (1 : Int32) dX7_steps_20 (by decide) ?_
    obtain rfl := Option.some.inj h
    exact a_zret C0 dX7_steps_21 rfl rfl rfl
  · have h := it_ c_1 h
    refine a_aload_n C0 dX7_steps_11 rfl 0 rfl ?_
    refine a_bipush C0 (9 : Int32) dX7_steps_12 (by decide) ?_
    refine a_iload_n C0 dX7_steps_14 rfl 1 rfl ?_
    obtain ⟨f0_2, h_3, h⟩ := bd1_e h
    refine a_callVv C0 (wdX7_2 cA q0 q1 q2 q3 q4 q5 q6 q7 q8 q9 q10 q11 q12 q13 f0_2 l0_31 l0_32) (As := [.int (9 : Int32), .int a1]) (rest := []) (ctX7_fault l D cA q0 q1 q2 q3 q4 q5 q6 q7 q8 q9 q10 q11 q12 q13 (9 : Int32) a1 f0 l0_31 l0_32 h_3) (cwV 2 C0.1.2.2.2.2 gX7_steps_X7_fault rfl rfl rfl hdX7_fault ⟨Nat.le_of_ble_eq_true rfl, Nat.le_of_ble_eq_true rfl⟩) [0] [] [0] rfl rfl rfl rfl (by decide) rfl rfl rfl rfl rfl rfl (Nat.le_of_ble_eq_true rfl) dX7_steps_15 ⟨Nat.zero_le _, Nat.zero_le _⟩ ?_
    refine a_iconst C0 (0 : Int32) dX7_steps_18 (by decide) ?_
    obtain rfl := Option.some.inj h
    exact a_zret C0 dX7_steps_19 rfl rfl rfl
set_option maxRecDepth 100000 in
theorem ctX7_steps (l : Launch) (D : va_G) (cA : ClassId) (q0 q1 q2 q3 q4 q5 q6 q7 q8 q9 q10 q11 q12 q13 : Nat) (a1 : Int32) (f0 : Nat → Int32) (l0_31 : Int64) (l0_32 : Int64) {res : Int32 × (Nat → Int32)} (h : pX7_steps a1 f0 l0_31 l0_32 = some res) : Cti l yX7_steps wsX7_steps (rmX7_steps) D vwCl [(cA, .int)] [.ref q0, .int a1] (wdX7_2 cA q0 q1 q2 q3 q4 q5 q6 q7 q8 q9 q10 q11 q12 q13 f0 l0_31 l0_32) (wdX7_2 cA q0 q1 q2 q3 q4 q5 q6 q7 q8 q9 q10 q11 q12 q13 res.2 l0_31 l0_32) 0 0 res.1 :=
  ct_i (maxL := 2) (cc := cX7_steps) (by decide) rfl (Nat.le_of_ble_eq_true rfl) (fun p e s m below meth c C0 => bwX7_steps C0 a1 f0 l0_31 l0_32 h)
/-! PackDrawerModel.give -/
abbrev wdX7_4 (cA : ClassId) (q0 q1 q2 q3 q4 q5 q6 q7 q8 q9 q10 q11 q12 q13 : Nat) (f0 : Nat → Int32) (l0_31 : Int64) (l0_32 : Int64) (f2 : Nat → Int32) (f3 : Nat → Int32) (f8 : Nat → Int32) : va_W := [(q0, .inr (7, [.ref q1, .int (f0 1), .int (f0 2), .ref q2, .ref q3, .ref q4, .ref q5, .ref q6, .ref q7, .ref q8, .int (f0 10), .ref q9, .ref q10, .ref q11, .int (f0 14), .int (f0 15), .int (f0 16), .int (f0 17), .int (f0 18), .int (f0 19), .int (f0 20), .int (f0 21), .int (f0 22), .int (f0 23), .int (f0 24), .int (f0 25), .int (f0 26), .int (f0 27), .int (f0 28), .ref q12, .ref q13, .long l0_31, .long l0_32])), (q2, .inl (cA, 6, .inl f2)), (q3, .inl (cA, 6, .inl f3)), (q8, .inl (cA, 2000, .inl f8))]
theorem hdX7_steps : yX7_steps.cls = RX7 ∧ yX7_steps.cls ≠ "java/lang/invoke/MethodHandle" ∧ yX7_steps.cls ≠ "java/lang/invoke/VarHandle" ∧ (parseMethodDescriptor yX7_steps.desc).map (fun d => d.parameters.length) = some 1 := by decide +kernel
abbrev rmX7_give : Room := { frames := 2, cells := 0, slots := 0, locals := 43 }
theorem lkX7_give_91 : Cond.fieldLink RX7 91 RX7 (TX7 20).2.1 (TX7 20).2.2.1 ∈ wsX7_give := by decide +kernel
theorem inX7_give_X7 : ∀ w ∈ u_ws RX7 TX7 33, w ∈ wsX7_give := by decide +kernel
theorem lkX7_give_31 : Cond.fieldLink RX7 31 RX7 (TX7 9).2.1 (TX7 9).2.2.1 ∈ wsX7_give := by decide +kernel
theorem lkX7_give_13 : Cond.fieldLink RX7 13 RX7 (TX7 3).2.1 (TX7 3).2.2.1 ∈ wsX7_give := by decide +kernel
theorem lkX7_give_66 : Cond.fieldLink RX7 66 RX7 (TX7 2).2.1 (TX7 2).2.2.1 ∈ wsX7_give := by decide +kernel
theorem lkX7_give_16 : Cond.fieldLink RX7 16 RX7 (TX7 4).2.1 (TX7 4).2.2.1 ∈ wsX7_give := by decide +kernel
theorem lkX7_give_73 : Cond.fieldLink RX7 73 RX7 (TX7 18).2.1 (TX7 18).2.2.1 ∈ wsX7_give := by decide +kernel
theorem lkX7_give_82 : Cond.fieldLink RX7 82 RX7 (TX7 19).2.1 (TX7 19).2.2.1 ∈ wsX7_give := by decide +kernel
theorem lkX7_give_85 : Cond.fieldLink RX7 85 RX7 (TX7 24).2.1 (TX7 24).2.2.1 ∈ wsX7_give := by decide +kernel
theorem lkX7_give_88 : Cond.fieldLink RX7 88 RX7 (TX7 23).2.1 (TX7 23).2.2.1 ∈ wsX7_give := by decide +kernel
def bfX7_give_102 (a1 : Int32) (a2 : Int32) (l0_31 : Int64) (l0_32 : Int64) (f2 : Nat → Int32) (s1 : Int32) (f0 : Nat → Int32) (f3 : Nat → Int32) (f8 : Nat → Int32) : Option (Int32 × (Nat → Int32) × (Nat → Int32) × (Nat → Int32)) := lt_ (upd f0 20 s1) (fun f0_1 => gi_ (f0_1 2) 6 (gi_ (f0_1 2) 6 (gi_ ((f2 (f0_1 2).toNatClampNeg) + (f3 (f0_1 2).toNatClampNeg)) 2000 (lt_ (upd f8 ((f2 (f0_1 2).toNatClampNeg) + (f3 (f0_1 2).toNatClampNeg)).toNatClampNeg a1) (fun f8_5 => gi_ (f0_1 2) 6 (gi_ (f0_1 2) 6 (lt_ (upd f3 (f0_1 2).toNatClampNeg ((f3 (f0_1 2).toNatClampNeg) + (1 : Int32))) (fun f3_8 => some ((1 : Int32), f0_1, f3_8, f8_5)))))))))
def bfX7_give_59 (a1 : Int32) (a2 : Int32) (l0_31 : Int64) (l0_32 : Int64) (f2 : Nat → Int32) (f0 : Nat → Int32) (f3 : Nat → Int32) (f8 : Nat → Int32) : Option (Int32 × (Nat → Int32) × (Nat → Int32) × (Nat → Int32)) := lt_ (upd f0 18 ((f0 18) + (1 : Int32))) (fun f0_9 => lt_ (upd f0_9 19 ((f0_9 19) + (1 : Int32))) (fun f0_10 => if (f0_10 19) ≤ (f0_10 20) then bfX7_give_102 a1 a2 l0_31 l0_32 f2 (f0_10 20) f0_10 f3 f8 else bfX7_give_102 a1 a2 l0_31 l0_32 f2 (f0_10 19) f0_10 f3 f8))
def pX7_give (a1 : Int32) (a2 : Int32) (f0 : Nat → Int32) (l0_31 : Int64) (l0_32 : Int64) (f2 : Nat → Int32) (f3 : Nat → Int32) (f8 : Nat → Int32) : Option (Int32 × (Nat → Int32) × (Nat → Int32) × (Nat → Int32)) := bd2 (pX7_steps a2 f0 l0_31 l0_32) (fun r_12 f0_13 => if r_12 = 0 then some ((0 : Int32), f0_13, f3, f8) else if (f0_13 19) = (f0_13 24) then bd1 (pX7_fault (10 : Int32) a2 f0_13 l0_31 l0_32) (fun f0_22 => some ((0 : Int32), f0_22, f3, f8)) else if (f0_13 2) = 0 then gi_ (0 : Int32) 6 (if (f3 (0 : Int32).toNatClampNeg) = (f0_13 23) then bd1 (pX7_fault (8 : Int32) a2 f0_13 l0_31 l0_32) (fun f0_20 => some ((0 : Int32), f0_20, f3, f8)) else bfX7_give_59 a1 a2 l0_31 l0_32 f2 f0_13 f3 f8) else bfX7_give_59 a1 a2 l0_31 l0_32 f2 f0_13 f3 f8)
set_option maxHeartbeats 4000000 in
set_option maxRecDepth 100000 in
theorem bwX7_give_102 {p : Program} {l : Launch} {e : Env} {s : State} {m : MethodId} {args : Array Value} {below : List Frame} {meth : Method} {c : Code} {D : va_G} {A : Nat → Prop} {cA : ClassId} {q0 q1 q2 q3 q4 q5 q6 q7 q8 q9 q10 q11 q12 q13 : Nat} {res : Int32 × (Nat → Int32) × (Nat → Int32) × (Nat → Int32)} (C0 : cx p s m args meth c cX7_give 3 RX7 wsX7_give (some .boolean) D vwCl [(cA, .int)] A) (a1 : Int32) (a2 : Int32) (l0_31 : Int64) (l0_32 : Int64) (f2 : Nat → Int32) (s1 : Int32) (f0 : Nat → Int32) (f3 : Nat → Int32) (f8 : Nat → Int32) (h : bfX7_give_102 a1 a2 l0_31 l0_32 f2  s1 f0 f3 f8 = some res) : At_ p l e (rmX7_give) s m args below meth c D vwCl A 3 0 0 (Qi_ below args s D vwCl A (wdX7_4 cA q0 q1 q2 q3 q4 q5 q6 q7 q8 q9 q10 q11 q12 q13 res.2.1 l0_31 l0_32 f2 res.2.2.1 res.2.2.2) res.1) 102 [(0, .ref q0), (1, .int a1), (2, .int a2)] [.int s1, .ref q0] (wdX7_4 cA q0 q1 q2 q3 q4 q5 q6 q7 q8 q9 q10 q11 q12 q13 f0 l0_31 l0_32 f2 f3 f8) := by
  unfold bfX7_give_102 at h
  obtain ⟨f0_1, ef0_1, h⟩ := lt_e h
  refine a_put C0 inX7_give_X7 tyX7 tyX7_ok nmX7 0 rfl rfl 20 (by decide) lkX7_give_91 (fun _ h9 => h9) rfl (ty := .int) (v := .int s1) (by decide +kernel) rfl rfl (Nat.le_of_ble_eq_true rfl) dX7_give_102 (wdX7_4 cA q0 q1 q2 q3 q4 q5 q6 q7 q8 q9 q10 q11 q12 q13 f0_1 l0_31 l0_32 f2 f3 f8) (by subst ef0_1; rfl) ?_
  refine a_aload_n C0 dX7_give_105 rfl 0 rfl ?_
  refine a_get C0 inX7_give_X7 0 rfl rfl 9 (by decide) lkX7_give_31 (fun _ h9 => h9) (.ref q8) rfl dX7_give_106 ?_
  refine a_aload_n C0 dX7_give_109 rfl 0 rfl ?_
  refine a_get C0 inX7_give_X7 0 rfl rfl 3 (by decide) lkX7_give_13 (fun _ h9 => h9) (.ref q2) rfl dX7_give_110 ?_
  refine a_aload_n C0 dX7_give_113 rfl 0 rfl ?_
  refine a_get C0 inX7_give_X7 0 rfl rfl 2 (by decide) lkX7_give_66 (fun _ h9 => h9) (.int (f0_1 2)) rfl dX7_give_114 ?_
  obtain ⟨g_2, h⟩ := gi_e h
  refine a_iald C0 1 0 rfl rfl g_2 dX7_give_117 ?_
  refine a_aload_n C0 dX7_give_118 rfl 0 rfl ?_
  refine a_get C0 inX7_give_X7 0 rfl rfl 4 (by decide) lkX7_give_16 (fun _ h9 => h9) (.ref q3) rfl dX7_give_119 ?_
  refine a_aload_n C0 dX7_give_122 rfl 0 rfl ?_
  refine a_get C0 inX7_give_X7 0 rfl rfl 2 (by decide) lkX7_give_66 (fun _ h9 => h9) (.int (f0_1 2)) rfl dX7_give_123 ?_
  obtain ⟨g_3, h⟩ := gi_e h
  refine a_iald C0 2 0 rfl rfl g_3 dX7_give_126 ?_
  refine a_iadd C0 dX7_give_127 ?_
  refine a_iload_n C0 dX7_give_128 rfl 1 rfl ?_
  obtain ⟨g_4, h⟩ := gi_e h
  obtain ⟨f8_5, ef8_5, h⟩ := lt_e h
  refine a_iast C0 3 0 rfl rfl g_4 dX7_give_129 (wdX7_4 cA q0 q1 q2 q3 q4 q5 q6 q7 q8 q9 q10 q11 q12 q13 f0_1 l0_31 l0_32 f2 f3 f8_5) (by subst ef8_5; rfl) ?_
  refine a_aload_n C0 dX7_give_130 rfl 0 rfl ?_
  refine a_get C0 inX7_give_X7 0 rfl rfl 4 (by decide) lkX7_give_16 (fun _ h9 => h9) (.ref q3) rfl dX7_give_131 ?_
  refine a_aload_n C0 dX7_give_134 rfl 0 rfl ?_
  refine a_get C0 inX7_give_X7 0 rfl rfl 2 (by decide) lkX7_give_66 (fun _ h9 => h9) (.int (f0_1 2)) rfl dX7_give_135 ?_
  refine a_dup2 C0 dX7_give_138 rfl rfl ?_
  obtain ⟨g_6, h⟩ := gi_e h
  refine a_iald C0 2 0 rfl rfl g_6 dX7_give_139 ?_
  refine a_iconst C0 (1 : Int32) dX7_give_140 (by decide) ?_
  refine a_iadd C0 dX7_give_141 ?_
  obtain ⟨g_7, h⟩ := gi_e h
  obtain ⟨f3_8, ef3_8, h⟩ := lt_e h
  refine a_iast C0 2 0 rfl rfl g_7 dX7_give_142 (wdX7_4 cA q0 q1 q2 q3 q4 q5 q6 q7 q8 q9 q10 q11 q12 q13 f0_1 l0_31 l0_32 f2 f3_8 f8_5) (by subst ef3_8; rfl) ?_
  refine a_iconst C0 (1 : Int32) dX7_give_143 (by decide) ?_
  obtain rfl := Option.some.inj h
  exact a_zret C0 dX7_give_144 rfl rfl rfl
set_option maxHeartbeats 4000000 in
set_option maxRecDepth 100000 in
theorem bwX7_give_59 {p : Program} {l : Launch} {e : Env} {s : State} {m : MethodId} {args : Array Value} {below : List Frame} {meth : Method} {c : Code} {D : va_G} {A : Nat → Prop} {cA : ClassId} {q0 q1 q2 q3 q4 q5 q6 q7 q8 q9 q10 q11 q12 q13 : Nat} {res : Int32 × (Nat → Int32) × (Nat → Int32) × (Nat → Int32)} (C0 : cx p s m args meth c cX7_give 3 RX7 wsX7_give (some .boolean) D vwCl [(cA, .int)] A) (a1 : Int32) (a2 : Int32) (l0_31 : Int64) (l0_32 : Int64) (f2 : Nat → Int32) (f0 : Nat → Int32) (f3 : Nat → Int32) (f8 : Nat → Int32) (h : bfX7_give_59 a1 a2 l0_31 l0_32 f2  f0 f3 f8 = some res) : At_ p l e (rmX7_give) s m args below meth c D vwCl A 3 0 0 (Qi_ below args s D vwCl A (wdX7_4 cA q0 q1 q2 q3 q4 q5 q6 q7 q8 q9 q10 q11 q12 q13 res.2.1 l0_31 l0_32 f2 res.2.2.1 res.2.2.2) res.1) 59 [(0, .ref q0), (1, .int a1), (2, .int a2)] [] (wdX7_4 cA q0 q1 q2 q3 q4 q5 q6 q7 q8 q9 q10 q11 q12 q13 f0 l0_31 l0_32 f2 f3 f8) := by
  unfold bfX7_give_59 at h
  refine a_aload_n C0 dX7_give_59 rfl 0 rfl ?_
  refine a_dup C0 dX7_give_60 rfl ?_
  refine a_get C0 inX7_give_X7 0 rfl rfl 18 (by decide) lkX7_give_73 (fun _ h9 => h9) (.int (f0 18)) rfl dX7_give_61 ?_
  refine a_iconst C0 (1 : Int32) dX7_give_64 (by decide) ?_
  refine a_iadd C0 dX7_give_65 ?_
  obtain ⟨f0_9, ef0_9, h⟩ := lt_e h
  refine a_put C0 inX7_give_X7 tyX7 tyX7_ok nmX7 0 rfl rfl 18 (by decide) lkX7_give_73 (fun _ h9 => h9) rfl (ty := .int) (v := .int ((f0 18) + (1 : Int32))) (by decide +kernel) rfl rfl (Nat.le_of_ble_eq_true rfl) dX7_give_66 (wdX7_4 cA q0 q1 q2 q3 q4 q5 q6 q7 q8 q9 q10 q11 q12 q13 f0_9 l0_31 l0_32 f2 f3 f8) (by subst ef0_9; rfl) ?_
  refine a_aload_n C0 dX7_give_69 rfl 0 rfl ?_
  refine a_dup C0 dX7_give_70 rfl ?_
  refine a_get C0 inX7_give_X7 0 rfl rfl 19 (by decide) lkX7_give_82 (fun _ h9 => h9) (.int (f0_9 19)) rfl dX7_give_71 ?_
  refine a_iconst C0 (1 : Int32) dX7_give_74 (by decide) ?_
  refine a_iadd C0 dX7_give_75 ?_
  obtain ⟨f0_10, ef0_10, h⟩ := lt_e h
  refine a_put C0 inX7_give_X7 tyX7 tyX7_ok nmX7 0 rfl rfl 19 (by decide) lkX7_give_82 (fun _ h9 => h9) rfl (ty := .int) (v := .int ((f0_9 19) + (1 : Int32))) (by decide +kernel) rfl rfl (Nat.le_of_ble_eq_true rfl) dX7_give_76 (wdX7_4 cA q0 q1 q2 q3 q4 q5 q6 q7 q8 q9 q10 q11 q12 q13 f0_10 l0_31 l0_32 f2 f3 f8) (by subst ef0_10; rfl) ?_
  refine a_aload_n C0 dX7_give_79 rfl 0 rfl ?_
  refine a_aload_n C0 dX7_give_80 rfl 0 rfl ?_
  refine a_get C0 inX7_give_X7 0 rfl rfl 19 (by decide) lkX7_give_82 (fun _ h9 => h9) (.int (f0_10 19)) rfl dX7_give_81 ?_
  refine a_aload_n C0 dX7_give_84 rfl 0 rfl ?_
  refine a_get C0 inX7_give_X7 0 rfl rfl 20 (by decide) lkX7_give_91 (fun _ h9 => h9) (.int (f0_10 20)) rfl dX7_give_85 ?_
  refine a_icmp_le C0 98 dX7_give_88 (by decide) (fun c_11 => ?_) (fun c_11 => ?_)
  · have h := it_ c_11 h
    refine a_aload_n C0 dX7_give_98 rfl 0 rfl ?_
    refine a_get C0 inX7_give_X7 0 rfl rfl 20 (by decide) lkX7_give_91 (fun _ h9 => h9) (.int (f0_10 20)) rfl dX7_give_99 ?_
    exact bwX7_give_102 C0 a1 a2 l0_31 l0_32 f2 (f0_10 20) f0_10 f3 f8 h
  · have h := ie_ c_11 h
    refine a_aload_n C0 dX7_give_91 rfl 0 rfl ?_
    refine a_get C0 inX7_give_X7 0 rfl rfl 19 (by decide) lkX7_give_82 (fun _ h9 => h9) (.int (f0_10 19)) rfl dX7_give_92 ?_
    refine a_goto C0 102 dX7_give_95 (by decide) ?_
    exact bwX7_give_102 C0 a1 a2 l0_31 l0_32 f2 (f0_10 19) f0_10 f3 f8 h
set_option maxHeartbeats 4000000 in
set_option maxRecDepth 100000 in
theorem bwX7_give {p : Program} {l : Launch} {e : Env} {s : State} {m : MethodId} {args : Array Value} {below : List Frame} {meth : Method} {c : Code} {D : va_G} {A : Nat → Prop} {cA : ClassId} {q0 q1 q2 q3 q4 q5 q6 q7 q8 q9 q10 q11 q12 q13 : Nat} {res : Int32 × (Nat → Int32) × (Nat → Int32) × (Nat → Int32)} (C0 : cx p s m args meth c cX7_give 3 RX7 wsX7_give (some .boolean) D vwCl [(cA, .int)] A) (a1 : Int32) (a2 : Int32) (f0 : Nat → Int32) (l0_31 : Int64) (l0_32 : Int64) (f2 : Nat → Int32) (f3 : Nat → Int32) (f8 : Nat → Int32) (h : pX7_give a1 a2 f0 l0_31 l0_32 f2 f3 f8 = some res) : At_ p l e (rmX7_give) s m args below meth c D vwCl A 3 0 0 (Qi_ below args s D vwCl A (wdX7_4 cA q0 q1 q2 q3 q4 q5 q6 q7 q8 q9 q10 q11 q12 q13 res.2.1 l0_31 l0_32 f2 res.2.2.1 res.2.2.2) res.1) 0 [(0, .ref q0), (1, .int a1), (2, .int a2)] [] (wdX7_4 cA q0 q1 q2 q3 q4 q5 q6 q7 q8 q9 q10 q11 q12 q13 f0 l0_31 l0_32 f2 f3 f8) := by
  unfold pX7_give at h
  refine a_aload_n C0 dX7_give_0 rfl 0 rfl ?_
  refine a_iload_n C0 dX7_give_1 rfl 2 rfl ?_
  obtain ⟨r_12, f0_13, h_14, h⟩ := bd2_e h
  refine a_callVi C0 (wdX7_4 cA q0 q1 q2 q3 q4 q5 q6 q7 q8 q9 q10 q11 q12 q13 f0_13 l0_31 l0_32 f2 f3 f8) (As := [.int a2]) (rest := []) (ctX7_steps l D cA q0 q1 q2 q3 q4 q5 q6 q7 q8 q9 q10 q11 q12 q13 a2 f0 l0_31 l0_32 h_14) (cwV 1 C0.1.2.2.2.2 gX7_give_X7_steps rfl rfl rfl hdX7_steps ⟨Nat.le_of_ble_eq_true rfl, Nat.le_of_ble_eq_true rfl⟩) [0] [1, 2, 3] [3, 0, 1, 2] rfl rfl rfl rfl (by decide) rfl rfl rfl rfl rfl rfl (Nat.le_of_ble_eq_true rfl) dX7_give_2 ⟨Nat.zero_le _, Nat.zero_le _⟩ ?_
  refine a_if_ne C0 10 dX7_give_5 (by decide) (fun c_15 => ?_) (fun c_15 => ?_)
  · have h := ie_ c_15 h
    refine a_aload_n C0 dX7_give_10 rfl 0 rfl ?_
    refine a_get C0 inX7_give_X7 0 rfl rfl 19 (by decide) lkX7_give_82 (fun _ h9 => h9) (.int (f0_13 19)) rfl dX7_give_11 ?_
    refine a_aload_n C0 dX7_give_14 rfl 0 rfl ?_
    refine a_get C0 inX7_give_X7 0 rfl rfl 24 (by decide) lkX7_give_85 (fun _ h9 => h9) (.int (f0_13 24)) rfl dX7_give_15 ?_
    refine a_icmp_ne C0 30 dX7_give_18 (by decide) (fun c_16 => ?_) (fun c_16 => ?_)
    · have h := ie_ c_16 h
      refine a_aload_n C0 dX7_give_30 rfl 0 rfl ?_
      refine a_get C0 inX7_give_X7 0 rfl rfl 2 (by decide) lkX7_give_66 (fun _ h9 => h9) (.int (f0_13 2)) rfl dX7_give_31 ?_
      refine a_if_ne C0 59 dX7_give_34 (by decide) (fun c_17 => ?_) (fun c_17 => ?_)
      · have h := ie_ c_17 h
        exact bwX7_give_59 C0 a1 a2 l0_31 l0_32 f2 f0_13 f3 f8 h
      · have h := it_ c_17 h
        refine a_aload_n C0 dX7_give_37 rfl 0 rfl ?_
        refine a_get C0 inX7_give_X7 0 rfl rfl 4 (by decide) lkX7_give_16 (fun _ h9 => h9) (.ref q3) rfl dX7_give_38 ?_
        refine a_iconst C0 (0 : Int32) dX7_give_41 (by decide) ?_
        obtain ⟨g_18, h⟩ := gi_e h
        refine a_iald C0 2 0 rfl rfl g_18 dX7_give_42 ?_
        refine a_aload_n C0 dX7_give_43 rfl 0 rfl ?_
        refine a_get C0 inX7_give_X7 0 rfl rfl 23 (by decide) lkX7_give_88 (fun _ h9 => h9) (.int (f0_13 23)) rfl dX7_give_44 ?_
        refine a_icmp_ne C0 59 dX7_give_47 (by decide) (fun c_19 => ?_) (fun c_19 => ?_)
        · have h := ie_ c_19 h
          exact bwX7_give_59 C0 a1 a2 l0_31 l0_32 f2 f0_13 f3 f8 h
        · have h := it_ c_19 h
          refine a_aload_n C0 dX7_give_50 rfl 0 rfl ?_
          refine a_bipush C0 (8 : Int32) dX7_give_51 (by decide) ?_
          refine a_iload_n C0 dX7_give_53 rfl 2 rfl ?_
          obtain ⟨f0_20, h_21, h⟩ := bd1_e h
          refine a_callVv C0 (wdX7_4 cA q0 q1 q2 q3 q4 q5 q6 q7 q8 q9 q10 q11 q12 q13 f0_20 l0_31 l0_32 f2 f3 f8) (As := [.int (8 : Int32), .int a2]) (rest := []) (ctX7_fault l D cA q0 q1 q2 q3 q4 q5 q6 q7 q8 q9 q10 q11 q12 q13 (8 : Int32) a2 f0_13 l0_31 l0_32 h_21) (cwV 2 C0.1.2.2.2.2 gX7_give_X7_fault rfl rfl rfl hdX7_fault ⟨Nat.le_of_ble_eq_true rfl, Nat.le_of_ble_eq_true rfl⟩) [0] [1, 2, 3] [3, 0, 1, 2] rfl rfl rfl rfl (by decide) rfl rfl rfl rfl rfl rfl (Nat.le_of_ble_eq_true rfl) dX7_give_54 ⟨Nat.zero_le _, Nat.zero_le _⟩ ?_
          refine a_iconst C0 (0 : Int32) dX7_give_57 (by decide) ?_
          obtain rfl := Option.some.inj h
          exact a_zret C0 dX7_give_58 rfl rfl rfl
    · have h := it_ c_16 h
      refine a_aload_n C0 dX7_give_21 rfl 0 rfl ?_
      refine a_bipush C0 (10 : Int32) dX7_give_22 (by decide) ?_
      refine a_iload_n C0 dX7_give_24 rfl 2 rfl ?_
      obtain ⟨f0_22, h_23, h⟩ := bd1_e h
      refine a_callVv C0 (wdX7_4 cA q0 q1 q2 q3 q4 q5 q6 q7 q8 q9 q10 q11 q12 q13 f0_22 l0_31 l0_32 f2 f3 f8) (As := [.int (10 : Int32), .int a2]) (rest := []) (ctX7_fault l D cA q0 q1 q2 q3 q4 q5 q6 q7 q8 q9 q10 q11 q12 q13 (10 : Int32) a2 f0_13 l0_31 l0_32 h_23) (cwV 2 C0.1.2.2.2.2 gX7_give_X7_fault rfl rfl rfl hdX7_fault ⟨Nat.le_of_ble_eq_true rfl, Nat.le_of_ble_eq_true rfl⟩) [0] [1, 2, 3] [3, 0, 1, 2] rfl rfl rfl rfl (by decide) rfl rfl rfl rfl rfl rfl (Nat.le_of_ble_eq_true rfl) dX7_give_25 ⟨Nat.zero_le _, Nat.zero_le _⟩ ?_
      refine a_iconst C0 (0 : Int32) dX7_give_28 (by decide) ?_
      obtain rfl := Option.some.inj h
      exact a_zret C0 dX7_give_29 rfl rfl rfl
  · have h := it_ c_15 h
    refine a_iconst C0 (0 : Int32) dX7_give_8 (by decide) ?_
    obtain rfl := Option.some.inj h
    exact a_zret C0 dX7_give_9 rfl rfl rfl
set_option maxRecDepth 100000 in
theorem ctX7_give (l : Launch) (D : va_G) (cA : ClassId) (q0 q1 q2 q3 q4 q5 q6 q7 q8 q9 q10 q11 q12 q13 : Nat) (a1 : Int32) (a2 : Int32) (f0 : Nat → Int32) (l0_31 : Int64) (l0_32 : Int64) (f2 : Nat → Int32) (f3 : Nat → Int32) (f8 : Nat → Int32) {res : Int32 × (Nat → Int32) × (Nat → Int32) × (Nat → Int32)} (h : pX7_give a1 a2 f0 l0_31 l0_32 f2 f3 f8 = some res) : Cti l yX7_give wsX7_give (rmX7_give) D vwCl [(cA, .int)] [.ref q0, .int a1, .int a2] (wdX7_4 cA q0 q1 q2 q3 q4 q5 q6 q7 q8 q9 q10 q11 q12 q13 f0 l0_31 l0_32 f2 f3 f8) (wdX7_4 cA q0 q1 q2 q3 q4 q5 q6 q7 q8 q9 q10 q11 q12 q13 res.2.1 l0_31 l0_32 f2 res.2.2.1 res.2.2.2) 0 0 res.1 :=
  ct_i (maxL := 3) (cc := cX7_give) (by decide) rfl (Nat.le_of_ble_eq_true rfl) (fun p e s m below meth c C0 => bwX7_give C0 a1 a2 f0 l0_31 l0_32 f2 f3 f8 h)
/-! PackDrawerModel.opens -/
abbrev wdX7_5 (cA : ClassId) (q0 q1 q2 q3 q4 q5 q6 q7 q8 q9 q10 q11 q12 q13 : Nat) (f0 : Nat → Int32) (l0_31 : Int64) (l0_32 : Int64) (f2 : Nat → Int32) (f3 : Nat → Int32) (f4 : Nat → Int32) (f5 : Nat → Int32) (f6 : Nat → Int32) (f7 : Nat → Int32) : va_W := [(q0, .inr (7, [.ref q1, .int (f0 1), .int (f0 2), .ref q2, .ref q3, .ref q4, .ref q5, .ref q6, .ref q7, .ref q8, .int (f0 10), .ref q9, .ref q10, .ref q11, .int (f0 14), .int (f0 15), .int (f0 16), .int (f0 17), .int (f0 18), .int (f0 19), .int (f0 20), .int (f0 21), .int (f0 22), .int (f0 23), .int (f0 24), .int (f0 25), .int (f0 26), .int (f0 27), .int (f0 28), .ref q12, .ref q13, .long l0_31, .long l0_32])), (q2, .inl (cA, 6, .inl f2)), (q3, .inl (cA, 6, .inl f3)), (q4, .inl (cA, 6, .inl f4)), (q5, .inl (cA, 6, .inl f5)), (q6, .inl (cA, 6, .inl f6)), (q7, .inl (cA, 6, .inl f7))]
abbrev rmX7_opens : Room := { frames := 0, cells := 0, slots := 0, locals := 0 }
theorem lkX7_opens_16 : Cond.fieldLink RX7 16 RX7 (TX7 4).2.1 (TX7 4).2.2.1 ∈ wsX7_opens := by decide +kernel
theorem inX7_opens_X7 : ∀ w ∈ u_ws RX7 TX7 33, w ∈ wsX7_opens := by decide +kernel
theorem lkX7_opens_66 : Cond.fieldLink RX7 66 RX7 (TX7 2).2.1 (TX7 2).2.2.1 ∈ wsX7_opens := by decide +kernel
theorem lkX7_opens_19 : Cond.fieldLink RX7 19 RX7 (TX7 5).2.1 (TX7 5).2.2.1 ∈ wsX7_opens := by decide +kernel
theorem lkX7_opens_22 : Cond.fieldLink RX7 22 RX7 (TX7 6).2.1 (TX7 6).2.2.1 ∈ wsX7_opens := by decide +kernel
theorem lkX7_opens_25 : Cond.fieldLink RX7 25 RX7 (TX7 7).2.1 (TX7 7).2.2.1 ∈ wsX7_opens := by decide +kernel
theorem lkX7_opens_28 : Cond.fieldLink RX7 28 RX7 (TX7 8).2.1 (TX7 8).2.2.1 ∈ wsX7_opens := by decide +kernel
theorem lkX7_opens_94 : Cond.fieldLink RX7 94 RX7 (TX7 10).2.1 (TX7 10).2.2.1 ∈ wsX7_opens := by decide +kernel
theorem lkX7_opens_97 : Cond.fieldLink RX7 97 RX7 (TX7 21).2.1 (TX7 21).2.2.1 ∈ wsX7_opens := by decide +kernel
theorem lkX7_opens_13 : Cond.fieldLink RX7 13 RX7 (TX7 3).2.1 (TX7 3).2.2.1 ∈ wsX7_opens := by decide +kernel
def bfX7_opens_42 (a1 : Int32) (a2 : Int32) (a3 : Int32) (l0_31 : Int64) (l0_32 : Int64) (s1 : Int32) (s2 : Int32) (f0 : Nat → Int32) (f2 : Nat → Int32) (f3 : Nat → Int32) (f4 : Nat → Int32) (f5 : Nat → Int32) (f6 : Nat → Int32) (f7 : Nat → Int32) : Option ((Nat → Int32) × (Nat → Int32) × (Nat → Int32) × (Nat → Int32) × (Nat → Int32) × (Nat → Int32) × (Nat → Int32)) := gi_ s1 6 (lt_ (upd f2 s1.toNatClampNeg s2) (fun f2_2 => gi_ (f0 2) 6 (lt_ (upd f3 (f0 2).toNatClampNeg (0 : Int32)) (fun f3_4 => gi_ (f0 2) 6 (lt_ (upd f4 (f0 2).toNatClampNeg a1) (fun f4_6 => gi_ (f0 2) 6 (lt_ (upd f5 (f0 2).toNatClampNeg a2) (fun f5_8 => gi_ (f0 2) 6 (lt_ (upd f6 (f0 2).toNatClampNeg a3) (fun f6_10 => gi_ (f0 2) 6 (lt_ (upd f7 (f0 2).toNatClampNeg (f0 10)) (fun f7_12 => if ((f0 2) + (1 : Int32)) ≤ (f0 21) then lt_ (upd f0 21 (f0 21)) (fun f0_14 => some (f0_14, f2_2, f3_4, f4_6, f5_8, f6_10, f7_12)) else lt_ (upd f0 21 ((f0 2) + (1 : Int32))) (fun f0_15 => some (f0_15, f2_2, f3_4, f4_6, f5_8, f6_10, f7_12))))))))))))))
def pX7_opens (a1 : Int32) (a2 : Int32) (a3 : Int32) (f0 : Nat → Int32) (l0_31 : Int64) (l0_32 : Int64) (f2 : Nat → Int32) (f3 : Nat → Int32) (f4 : Nat → Int32) (f5 : Nat → Int32) (f6 : Nat → Int32) (f7 : Nat → Int32) : Option ((Nat → Int32) × (Nat → Int32) × (Nat → Int32) × (Nat → Int32) × (Nat → Int32) × (Nat → Int32) × (Nat → Int32)) := if (f0 2) = 0 then bfX7_opens_42 a1 a2 a3 l0_31 l0_32 (f0 2) (0 : Int32) f0 f2 f3 f4 f5 f6 f7 else gi_ ((f0 2) - (1 : Int32)) 6 (gi_ ((f0 2) - (1 : Int32)) 6 (bfX7_opens_42 a1 a2 a3 l0_31 l0_32 (f0 2) ((f2 ((f0 2) - (1 : Int32)).toNatClampNeg) + (f3 ((f0 2) - (1 : Int32)).toNatClampNeg)) f0 f2 f3 f4 f5 f6 f7))
set_option maxHeartbeats 4000000 in
set_option maxRecDepth 100000 in
theorem bwX7_opens_42 {p : Program} {l : Launch} {e : Env} {s : State} {m : MethodId} {args : Array Value} {below : List Frame} {meth : Method} {c : Code} {D : va_G} {A : Nat → Prop} {cA : ClassId} {q0 q1 q2 q3 q4 q5 q6 q7 q8 q9 q10 q11 q12 q13 : Nat} {res : (Nat → Int32) × (Nat → Int32) × (Nat → Int32) × (Nat → Int32) × (Nat → Int32) × (Nat → Int32) × (Nat → Int32)} (C0 : cx p s m args meth c cX7_opens 4 RX7 wsX7_opens none D vwCl [(cA, .int)] A) (a1 : Int32) (a2 : Int32) (a3 : Int32) (l0_31 : Int64) (l0_32 : Int64) (s1 : Int32) (s2 : Int32) (f0 : Nat → Int32) (f2 : Nat → Int32) (f3 : Nat → Int32) (f4 : Nat → Int32) (f5 : Nat → Int32) (f6 : Nat → Int32) (f7 : Nat → Int32) (h : bfX7_opens_42 a1 a2 a3 l0_31 l0_32  s1 s2 f0 f2 f3 f4 f5 f6 f7 = some res) : At_ p l e (rmX7_opens) s m args below meth c D vwCl A 4 0 0 (Qv_ below args s D vwCl A (wdX7_5 cA q0 q1 q2 q3 q4 q5 q6 q7 q8 q9 q10 q11 q12 q13 res.1 l0_31 l0_32 res.2.1 res.2.2.1 res.2.2.2.1 res.2.2.2.2.1 res.2.2.2.2.2.1 res.2.2.2.2.2.2)) 42 [(0, .ref q0), (1, .int a1), (2, .int a2), (3, .int a3)] [.int s2, .int s1, .ref q2] (wdX7_5 cA q0 q1 q2 q3 q4 q5 q6 q7 q8 q9 q10 q11 q12 q13 f0 l0_31 l0_32 f2 f3 f4 f5 f6 f7) := by
  unfold bfX7_opens_42 at h
  obtain ⟨g_1, h⟩ := gi_e h
  obtain ⟨f2_2, ef2_2, h⟩ := lt_e h
  refine a_iast C0 1 0 rfl rfl g_1 dX7_opens_42 (wdX7_5 cA q0 q1 q2 q3 q4 q5 q6 q7 q8 q9 q10 q11 q12 q13 f0 l0_31 l0_32 f2_2 f3 f4 f5 f6 f7) (by subst ef2_2; rfl) ?_
  refine a_aload_n C0 dX7_opens_43 rfl 0 rfl ?_
  refine a_get C0 inX7_opens_X7 0 rfl rfl 4 (by decide) lkX7_opens_16 (fun _ h9 => h9) (.ref q3) rfl dX7_opens_44 ?_
  refine a_aload_n C0 dX7_opens_47 rfl 0 rfl ?_
  refine a_get C0 inX7_opens_X7 0 rfl rfl 2 (by decide) lkX7_opens_66 (fun _ h9 => h9) (.int (f0 2)) rfl dX7_opens_48 ?_
  refine a_iconst C0 (0 : Int32) dX7_opens_51 (by decide) ?_
  obtain ⟨g_3, h⟩ := gi_e h
  obtain ⟨f3_4, ef3_4, h⟩ := lt_e h
  refine a_iast C0 2 0 rfl rfl g_3 dX7_opens_52 (wdX7_5 cA q0 q1 q2 q3 q4 q5 q6 q7 q8 q9 q10 q11 q12 q13 f0 l0_31 l0_32 f2_2 f3_4 f4 f5 f6 f7) (by subst ef3_4; rfl) ?_
  refine a_aload_n C0 dX7_opens_53 rfl 0 rfl ?_
  refine a_get C0 inX7_opens_X7 0 rfl rfl 5 (by decide) lkX7_opens_19 (fun _ h9 => h9) (.ref q4) rfl dX7_opens_54 ?_
  refine a_aload_n C0 dX7_opens_57 rfl 0 rfl ?_
  refine a_get C0 inX7_opens_X7 0 rfl rfl 2 (by decide) lkX7_opens_66 (fun _ h9 => h9) (.int (f0 2)) rfl dX7_opens_58 ?_
  refine a_iload_n C0 dX7_opens_61 rfl 1 rfl ?_
  obtain ⟨g_5, h⟩ := gi_e h
  obtain ⟨f4_6, ef4_6, h⟩ := lt_e h
  refine a_iast C0 3 0 rfl rfl g_5 dX7_opens_62 (wdX7_5 cA q0 q1 q2 q3 q4 q5 q6 q7 q8 q9 q10 q11 q12 q13 f0 l0_31 l0_32 f2_2 f3_4 f4_6 f5 f6 f7) (by subst ef4_6; rfl) ?_
  refine a_aload_n C0 dX7_opens_63 rfl 0 rfl ?_
  refine a_get C0 inX7_opens_X7 0 rfl rfl 6 (by decide) lkX7_opens_22 (fun _ h9 => h9) (.ref q5) rfl dX7_opens_64 ?_
  refine a_aload_n C0 dX7_opens_67 rfl 0 rfl ?_
  refine a_get C0 inX7_opens_X7 0 rfl rfl 2 (by decide) lkX7_opens_66 (fun _ h9 => h9) (.int (f0 2)) rfl dX7_opens_68 ?_
  refine a_iload_n C0 dX7_opens_71 rfl 2 rfl ?_
  obtain ⟨g_7, h⟩ := gi_e h
  obtain ⟨f5_8, ef5_8, h⟩ := lt_e h
  refine a_iast C0 4 0 rfl rfl g_7 dX7_opens_72 (wdX7_5 cA q0 q1 q2 q3 q4 q5 q6 q7 q8 q9 q10 q11 q12 q13 f0 l0_31 l0_32 f2_2 f3_4 f4_6 f5_8 f6 f7) (by subst ef5_8; rfl) ?_
  refine a_aload_n C0 dX7_opens_73 rfl 0 rfl ?_
  refine a_get C0 inX7_opens_X7 0 rfl rfl 7 (by decide) lkX7_opens_25 (fun _ h9 => h9) (.ref q6) rfl dX7_opens_74 ?_
  refine a_aload_n C0 dX7_opens_77 rfl 0 rfl ?_
  refine a_get C0 inX7_opens_X7 0 rfl rfl 2 (by decide) lkX7_opens_66 (fun _ h9 => h9) (.int (f0 2)) rfl dX7_opens_78 ?_
  refine a_iload_n C0 dX7_opens_81 rfl 3 rfl ?_
  obtain ⟨g_9, h⟩ := gi_e h
  obtain ⟨f6_10, ef6_10, h⟩ := lt_e h
  refine a_iast C0 5 0 rfl rfl g_9 dX7_opens_82 (wdX7_5 cA q0 q1 q2 q3 q4 q5 q6 q7 q8 q9 q10 q11 q12 q13 f0 l0_31 l0_32 f2_2 f3_4 f4_6 f5_8 f6_10 f7) (by subst ef6_10; rfl) ?_
  refine a_aload_n C0 dX7_opens_83 rfl 0 rfl ?_
  refine a_get C0 inX7_opens_X7 0 rfl rfl 8 (by decide) lkX7_opens_28 (fun _ h9 => h9) (.ref q7) rfl dX7_opens_84 ?_
  refine a_aload_n C0 dX7_opens_87 rfl 0 rfl ?_
  refine a_get C0 inX7_opens_X7 0 rfl rfl 2 (by decide) lkX7_opens_66 (fun _ h9 => h9) (.int (f0 2)) rfl dX7_opens_88 ?_
  refine a_aload_n C0 dX7_opens_91 rfl 0 rfl ?_
  refine a_get C0 inX7_opens_X7 0 rfl rfl 10 (by decide) lkX7_opens_94 (fun _ h9 => h9) (.int (f0 10)) rfl dX7_opens_92 ?_
  obtain ⟨g_11, h⟩ := gi_e h
  obtain ⟨f7_12, ef7_12, h⟩ := lt_e h
  refine a_iast C0 6 0 rfl rfl g_11 dX7_opens_95 (wdX7_5 cA q0 q1 q2 q3 q4 q5 q6 q7 q8 q9 q10 q11 q12 q13 f0 l0_31 l0_32 f2_2 f3_4 f4_6 f5_8 f6_10 f7_12) (by subst ef7_12; rfl) ?_
  refine a_aload_n C0 dX7_opens_96 rfl 0 rfl ?_
  refine a_aload_n C0 dX7_opens_97 rfl 0 rfl ?_
  refine a_get C0 inX7_opens_X7 0 rfl rfl 2 (by decide) lkX7_opens_66 (fun _ h9 => h9) (.int (f0 2)) rfl dX7_opens_98 ?_
  refine a_iconst C0 (1 : Int32) dX7_opens_101 (by decide) ?_
  refine a_iadd C0 dX7_opens_102 ?_
  refine a_aload_n C0 dX7_opens_103 rfl 0 rfl ?_
  refine a_get C0 inX7_opens_X7 0 rfl rfl 21 (by decide) lkX7_opens_97 (fun _ h9 => h9) (.int (f0 21)) rfl dX7_opens_104 ?_
  refine a_icmp_le C0 119 dX7_opens_107 (by decide) (fun c_13 => ?_) (fun c_13 => ?_)
  · have h := it_ c_13 h
    refine a_aload_n C0 dX7_opens_119 rfl 0 rfl ?_
    refine a_get C0 inX7_opens_X7 0 rfl rfl 21 (by decide) lkX7_opens_97 (fun _ h9 => h9) (.int (f0 21)) rfl dX7_opens_120 ?_
    obtain ⟨f0_14, ef0_14, h⟩ := lt_e h
    refine a_put C0 inX7_opens_X7 tyX7 tyX7_ok nmX7 0 rfl rfl 21 (by decide) lkX7_opens_97 (fun _ h9 => h9) rfl (ty := .int) (v := .int (f0 21)) (by decide +kernel) rfl rfl (Nat.le_of_ble_eq_true rfl) dX7_opens_123 (wdX7_5 cA q0 q1 q2 q3 q4 q5 q6 q7 q8 q9 q10 q11 q12 q13 f0_14 l0_31 l0_32 f2_2 f3_4 f4_6 f5_8 f6_10 f7_12) (by subst ef0_14; rfl) ?_
    obtain rfl := Option.some.inj h
    exact a_vret C0 dX7_opens_126 rfl
  · have h := ie_ c_13 h
    refine a_aload_n C0 dX7_opens_110 rfl 0 rfl ?_
    refine a_get C0 inX7_opens_X7 0 rfl rfl 2 (by decide) lkX7_opens_66 (fun _ h9 => h9) (.int (f0 2)) rfl dX7_opens_111 ?_
    refine a_iconst C0 (1 : Int32) dX7_opens_114 (by decide) ?_
    refine a_iadd C0 dX7_opens_115 ?_
    refine a_goto C0 123 dX7_opens_116 (by decide) ?_
    obtain ⟨f0_15, ef0_15, h⟩ := lt_e h
    refine a_put C0 inX7_opens_X7 tyX7 tyX7_ok nmX7 0 rfl rfl 21 (by decide) lkX7_opens_97 (fun _ h9 => h9) rfl (ty := .int) (v := .int ((f0 2) + (1 : Int32))) (by decide +kernel) rfl rfl (Nat.le_of_ble_eq_true rfl) dX7_opens_123 (wdX7_5 cA q0 q1 q2 q3 q4 q5 q6 q7 q8 q9 q10 q11 q12 q13 f0_15 l0_31 l0_32 f2_2 f3_4 f4_6 f5_8 f6_10 f7_12) (by subst ef0_15; rfl) ?_
    obtain rfl := Option.some.inj h
    exact a_vret C0 dX7_opens_126 rfl
set_option maxHeartbeats 4000000 in
set_option maxRecDepth 100000 in
theorem bwX7_opens {p : Program} {l : Launch} {e : Env} {s : State} {m : MethodId} {args : Array Value} {below : List Frame} {meth : Method} {c : Code} {D : va_G} {A : Nat → Prop} {cA : ClassId} {q0 q1 q2 q3 q4 q5 q6 q7 q8 q9 q10 q11 q12 q13 : Nat} {res : (Nat → Int32) × (Nat → Int32) × (Nat → Int32) × (Nat → Int32) × (Nat → Int32) × (Nat → Int32) × (Nat → Int32)} (C0 : cx p s m args meth c cX7_opens 4 RX7 wsX7_opens none D vwCl [(cA, .int)] A) (a1 : Int32) (a2 : Int32) (a3 : Int32) (f0 : Nat → Int32) (l0_31 : Int64) (l0_32 : Int64) (f2 : Nat → Int32) (f3 : Nat → Int32) (f4 : Nat → Int32) (f5 : Nat → Int32) (f6 : Nat → Int32) (f7 : Nat → Int32) (h : pX7_opens a1 a2 a3 f0 l0_31 l0_32 f2 f3 f4 f5 f6 f7 = some res) : At_ p l e (rmX7_opens) s m args below meth c D vwCl A 4 0 0 (Qv_ below args s D vwCl A (wdX7_5 cA q0 q1 q2 q3 q4 q5 q6 q7 q8 q9 q10 q11 q12 q13 res.1 l0_31 l0_32 res.2.1 res.2.2.1 res.2.2.2.1 res.2.2.2.2.1 res.2.2.2.2.2.1 res.2.2.2.2.2.2)) 0 [(0, .ref q0), (1, .int a1), (2, .int a2), (3, .int a3)] [] (wdX7_5 cA q0 q1 q2 q3 q4 q5 q6 q7 q8 q9 q10 q11 q12 q13 f0 l0_31 l0_32 f2 f3 f4 f5 f6 f7) := by
  unfold pX7_opens at h
  refine a_aload_n C0 dX7_opens_0 rfl 0 rfl ?_
  refine a_get C0 inX7_opens_X7 0 rfl rfl 3 (by decide) lkX7_opens_13 (fun _ h9 => h9) (.ref q2) rfl dX7_opens_1 ?_
  refine a_aload_n C0 dX7_opens_4 rfl 0 rfl ?_
  refine a_get C0 inX7_opens_X7 0 rfl rfl 2 (by decide) lkX7_opens_66 (fun _ h9 => h9) (.int (f0 2)) rfl dX7_opens_5 ?_
  refine a_aload_n C0 dX7_opens_8 rfl 0 rfl ?_
  refine a_get C0 inX7_opens_X7 0 rfl rfl 2 (by decide) lkX7_opens_66 (fun _ h9 => h9) (.int (f0 2)) rfl dX7_opens_9 ?_
  refine a_if_ne C0 19 dX7_opens_12 (by decide) (fun c_16 => ?_) (fun c_16 => ?_)
  · have h := ie_ c_16 h
    refine a_aload_n C0 dX7_opens_19 rfl 0 rfl ?_
    refine a_get C0 inX7_opens_X7 0 rfl rfl 3 (by decide) lkX7_opens_13 (fun _ h9 => h9) (.ref q2) rfl dX7_opens_20 ?_
    refine a_aload_n C0 dX7_opens_23 rfl 0 rfl ?_
    refine a_get C0 inX7_opens_X7 0 rfl rfl 2 (by decide) lkX7_opens_66 (fun _ h9 => h9) (.int (f0 2)) rfl dX7_opens_24 ?_
    refine a_iconst C0 (1 : Int32) dX7_opens_27 (by decide) ?_
    refine a_isub C0 dX7_opens_28 ?_
    obtain ⟨g_17, h⟩ := gi_e h
    refine a_iald C0 1 0 rfl rfl g_17 dX7_opens_29 ?_
    refine a_aload_n C0 dX7_opens_30 rfl 0 rfl ?_
    refine a_get C0 inX7_opens_X7 0 rfl rfl 4 (by decide) lkX7_opens_16 (fun _ h9 => h9) (.ref q3) rfl dX7_opens_31 ?_
    refine a_aload_n C0 dX7_opens_34 rfl 0 rfl ?_
    refine a_get C0 inX7_opens_X7 0 rfl rfl 2 (by decide) lkX7_opens_66 (fun _ h9 => h9) (.int (f0 2)) rfl dX7_opens_35 ?_
    refine a_iconst C0 (1 : Int32) dX7_opens_38 (by decide) ?_
    refine a_isub C0 dX7_opens_39 ?_
    obtain ⟨g_18, h⟩ := gi_e h
    refine a_iald C0 2 0 rfl rfl g_18 dX7_opens_40 ?_
    refine a_iadd C0 dX7_opens_41 ?_
    exact bwX7_opens_42 C0 a1 a2 a3 l0_31 l0_32 (f0 2) ((f2 ((f0 2) - (1 : Int32)).toNatClampNeg) + (f3 ((f0 2) - (1 : Int32)).toNatClampNeg)) f0 f2 f3 f4 f5 f6 f7 h
  · have h := it_ c_16 h
    refine a_iconst C0 (0 : Int32) dX7_opens_15 (by decide) ?_
    refine a_goto C0 42 dX7_opens_16 (by decide) ?_
    exact bwX7_opens_42 C0 a1 a2 a3 l0_31 l0_32 (f0 2) (0 : Int32) f0 f2 f3 f4 f5 f6 f7 h
set_option maxRecDepth 100000 in
theorem ctX7_opens (l : Launch) (D : va_G) (cA : ClassId) (q0 q1 q2 q3 q4 q5 q6 q7 q8 q9 q10 q11 q12 q13 : Nat) (a1 : Int32) (a2 : Int32) (a3 : Int32) (f0 : Nat → Int32) (l0_31 : Int64) (l0_32 : Int64) (f2 : Nat → Int32) (f3 : Nat → Int32) (f4 : Nat → Int32) (f5 : Nat → Int32) (f6 : Nat → Int32) (f7 : Nat → Int32) {res : (Nat → Int32) × (Nat → Int32) × (Nat → Int32) × (Nat → Int32) × (Nat → Int32) × (Nat → Int32) × (Nat → Int32)} (h : pX7_opens a1 a2 a3 f0 l0_31 l0_32 f2 f3 f4 f5 f6 f7 = some res) : Ctv l yX7_opens wsX7_opens (rmX7_opens) D vwCl [(cA, .int)] [.ref q0, .int a1, .int a2, .int a3] (wdX7_5 cA q0 q1 q2 q3 q4 q5 q6 q7 q8 q9 q10 q11 q12 q13 f0 l0_31 l0_32 f2 f3 f4 f5 f6 f7) (wdX7_5 cA q0 q1 q2 q3 q4 q5 q6 q7 q8 q9 q10 q11 q12 q13 res.1 l0_31 l0_32 res.2.1 res.2.2.1 res.2.2.2.1 res.2.2.2.2.1 res.2.2.2.2.2.1 res.2.2.2.2.2.2) 0 0 :=
  ct_n (S := Unit) (maxL := 4) (cc := cX7_opens) (by decide) rfl (Nat.le_of_ble_eq_true rfl) (fun p e s m below meth c _ C0 => bwX7_opens C0 a1 a2 a3 f0 l0_31 l0_32 f2 f3 f4 f5 f6 f7 h)
/-! PackDrawerModel.done -/
abbrev wdX7_6 (cA : ClassId) (q0 q1 q2 q3 q4 q5 q6 q7 q8 q9 q10 q11 q12 q13 : Nat) (f0 : Nat → Int32) (l0_31 : Int64) (l0_32 : Int64) (f2 : Nat → Int32) (f3 : Nat → Int32) (f7 : Nat → Int32) (f8 : Nat → Int32) (f9 : Nat → Int32) (f10 : Nat → Int32) (f11 : Nat → Int32) : va_W := [(q0, .inr (7, [.ref q1, .int (f0 1), .int (f0 2), .ref q2, .ref q3, .ref q4, .ref q5, .ref q6, .ref q7, .ref q8, .int (f0 10), .ref q9, .ref q10, .ref q11, .int (f0 14), .int (f0 15), .int (f0 16), .int (f0 17), .int (f0 18), .int (f0 19), .int (f0 20), .int (f0 21), .int (f0 22), .int (f0 23), .int (f0 24), .int (f0 25), .int (f0 26), .int (f0 27), .int (f0 28), .ref q12, .ref q13, .long l0_31, .long l0_32])), (q2, .inl (cA, 6, .inl f2)), (q3, .inl (cA, 6, .inl f3)), (q7, .inl (cA, 6, .inl f7)), (q8, .inl (cA, 2000, .inl f8)), (q9, .inl (cA, 170, .inl f9)), (q10, .inl (cA, 170, .inl f10)), (q11, .inl (cA, 170, .inl f11))]
theorem hdX7_give : yX7_give.cls = RX7 ∧ yX7_give.cls ≠ "java/lang/invoke/MethodHandle" ∧ yX7_give.cls ≠ "java/lang/invoke/VarHandle" ∧ (parseMethodDescriptor yX7_give.desc).map (fun d => d.parameters.length) = some 2 := by decide +kernel
abbrev rmX7_done : Room := { frames := 3, cells := 0, slots := 0, locals := 65 }
theorem lkX7_done_57 : Cond.fieldLink RX7 57 RX7 (TX7 16).2.1 (TX7 16).2.2.1 ∈ wsX7_done := by decide +kernel
theorem inX7_done_X7 : ∀ w ∈ u_ws RX7 TX7 33, w ∈ wsX7_done := by decide +kernel
theorem lkX7_done_31 : Cond.fieldLink RX7 31 RX7 (TX7 9).2.1 (TX7 9).2.2.1 ∈ wsX7_done := by decide +kernel
theorem lkX7_done_37 : Cond.fieldLink RX7 37 RX7 (TX7 12).2.1 (TX7 12).2.2.1 ∈ wsX7_done := by decide +kernel
theorem lkX7_done_94 : Cond.fieldLink RX7 94 RX7 (TX7 10).2.1 (TX7 10).2.2.1 ∈ wsX7_done := by decide +kernel
theorem lkX7_done_28 : Cond.fieldLink RX7 28 RX7 (TX7 8).2.1 (TX7 8).2.2.1 ∈ wsX7_done := by decide +kernel
theorem lkX7_done_66 : Cond.fieldLink RX7 66 RX7 (TX7 2).2.1 (TX7 2).2.2.1 ∈ wsX7_done := by decide +kernel
theorem lkX7_done_13 : Cond.fieldLink RX7 13 RX7 (TX7 3).2.1 (TX7 3).2.2.1 ∈ wsX7_done := by decide +kernel
theorem lkX7_done_40 : Cond.fieldLink RX7 40 RX7 (TX7 13).2.1 (TX7 13).2.2.1 ∈ wsX7_done := by decide +kernel
theorem lkX7_done_16 : Cond.fieldLink RX7 16 RX7 (TX7 4).2.1 (TX7 4).2.2.1 ∈ wsX7_done := by decide +kernel
theorem lkX7_done_34 : Cond.fieldLink RX7 34 RX7 (TX7 11).2.1 (TX7 11).2.2.1 ∈ wsX7_done := by decide +kernel
def bfX7_done_155 (N : Nat) (l0_31 : Int64) (l0_32 : Int64) (f2 : Nat → Int32) (f7 : Nat → Int32) (f9 : Nat → Int32) (f10 : Nat → Int32) (f11 : Nat → Int32) (rc0 : (Nat → Int32) → (Nat → Int32) → (Nat → Int32) → Option ((Nat → Int32) × (Nat → Int32) × (Nat → Int32))) (rc96 : Int32 → Int32 → Int32 → Int32 → (Nat → Int32) → (Nat → Int32) → (Nat → Int32) → Option ((Nat → Int32) × (Nat → Int32) × (Nat → Int32))) (v1 : Int32) (v2 : Int32) (v3 : Int32) (v4 : Int32) (f0 : Nat → Int32) (f3 : Nat → Int32) (f8 : Nat → Int32) : Option ((Nat → Int32) × (Nat → Int32) × (Nat → Int32)) := lt_ ((v4 + (1 : Int32))) (fun x_1 => rc96 v1 v2 v3 x_1 f0 f3 f8)
def bFX7_done_112 (N : Nat) (l0_31 : Int64) (l0_32 : Int64) (f2 : Nat → Int32) (f7 : Nat → Int32) (f9 : Nat → Int32) (f10 : Nat → Int32) (f11 : Nat → Int32) (rc0 : (Nat → Int32) → (Nat → Int32) → (Nat → Int32) → Option ((Nat → Int32) × (Nat → Int32) × (Nat → Int32))) (rc96 : Int32 → Int32 → Int32 → Int32 → (Nat → Int32) → (Nat → Int32) → (Nat → Int32) → Option ((Nat → Int32) × (Nat → Int32) × (Nat → Int32))) (rc112 : Int32 → Int32 → Int32 → Int32 → Int32 → (Nat → Int32) → (Nat → Int32) → (Nat → Int32) → Option ((Nat → Int32) × (Nat → Int32) × (Nat → Int32))) (v1 : Int32) (v2 : Int32) (v3 : Int32) (v4 : Int32) (v5 : Int32) (f0 : Nat → Int32) (f3 : Nat → Int32) (f8 : Nat → Int32) : Option ((Nat → Int32) × (Nat → Int32) × (Nat → Int32)) := if v2 ≤ v5 then bfX7_done_155 N l0_31 l0_32 f2 f7 f9 f10 f11 rc0 rc96 v1 v2 v3 v4 f0 f3 f8 else if (f0 16) = 0 then gi_ (v1 + v5) 2000 (gi_ (f0 10) 170 (bd4 (pX7_give (f8 (v1 + v5).toNatClampNeg) (f10 (f0 10).toNatClampNeg) f0 l0_31 l0_32 f2 f3 f8) (fun r_6 f0_7 f3_8 f8_9 => lt_ ((v5 + (1 : Int32))) (fun x_11 => rc112 v1 v2 v3 v4 x_11 f0_7 f3_8 f8_9)))) else bfX7_done_155 N l0_31 l0_32 f2 f7 f9 f10 f11 rc0 rc96 v1 v2 v3 v4 f0 f3 f8
def bfX7_done_112 (N : Nat) (l0_31 : Int64) (l0_32 : Int64) (f2 : Nat → Int32) (f7 : Nat → Int32) (f9 : Nat → Int32) (f10 : Nat → Int32) (f11 : Nat → Int32) (rc0 : (Nat → Int32) → (Nat → Int32) → (Nat → Int32) → Option ((Nat → Int32) × (Nat → Int32) × (Nat → Int32))) (rc96 : Int32 → Int32 → Int32 → Int32 → (Nat → Int32) → (Nat → Int32) → (Nat → Int32) → Option ((Nat → Int32) × (Nat → Int32) × (Nat → Int32))) : Nat → Int32 → Int32 → Int32 → Int32 → Int32 → (Nat → Int32) → (Nat → Int32) → (Nat → Int32) → Option ((Nat → Int32) × (Nat → Int32) × (Nat → Int32))
  | 0 => fun _ _ _ _ _ _ _ _ => none
  | n + 1 => bFX7_done_112 N l0_31 l0_32 f2 f7 f9 f10 f11 rc0 rc96 (bfX7_done_112 N l0_31 l0_32 f2 f7 f9 f10 f11 rc0 rc96 n)
def bfX7_done_161 (N : Nat) (l0_31 : Int64) (l0_32 : Int64) (f2 : Nat → Int32) (f7 : Nat → Int32) (f9 : Nat → Int32) (f10 : Nat → Int32) (f11 : Nat → Int32) (rc0 : (Nat → Int32) → (Nat → Int32) → (Nat → Int32) → Option ((Nat → Int32) × (Nat → Int32) × (Nat → Int32))) (f0 : Nat → Int32) (f3 : Nat → Int32) (f8 : Nat → Int32) : Option ((Nat → Int32) × (Nat → Int32) × (Nat → Int32)) := rc0 f0 f3 f8
def bFX7_done_96 (N : Nat) (l0_31 : Int64) (l0_32 : Int64) (f2 : Nat → Int32) (f7 : Nat → Int32) (f9 : Nat → Int32) (f10 : Nat → Int32) (f11 : Nat → Int32) (rc0 : (Nat → Int32) → (Nat → Int32) → (Nat → Int32) → Option ((Nat → Int32) × (Nat → Int32) × (Nat → Int32))) (rc96 : Int32 → Int32 → Int32 → Int32 → (Nat → Int32) → (Nat → Int32) → (Nat → Int32) → Option ((Nat → Int32) × (Nat → Int32) × (Nat → Int32))) (v1 : Int32) (v2 : Int32) (v3 : Int32) (v4 : Int32) (f0 : Nat → Int32) (f3 : Nat → Int32) (f8 : Nat → Int32) : Option ((Nat → Int32) × (Nat → Int32) × (Nat → Int32)) := if v3 ≤ v4 then bfX7_done_161 N l0_31 l0_32 f2 f7 f9 f10 f11 rc0 f0 f3 f8 else if (f0 16) = 0 then bfX7_done_112 N l0_31 l0_32 f2 f7 f9 f10 f11 rc0 rc96 N v1 v2 v3 v4 (0 : Int32) f0 f3 f8 else bfX7_done_161 N l0_31 l0_32 f2 f7 f9 f10 f11 rc0 f0 f3 f8
def bfX7_done_96 (N : Nat) (l0_31 : Int64) (l0_32 : Int64) (f2 : Nat → Int32) (f7 : Nat → Int32) (f9 : Nat → Int32) (f10 : Nat → Int32) (f11 : Nat → Int32) (rc0 : (Nat → Int32) → (Nat → Int32) → (Nat → Int32) → Option ((Nat → Int32) × (Nat → Int32) × (Nat → Int32))) : Nat → Int32 → Int32 → Int32 → Int32 → (Nat → Int32) → (Nat → Int32) → (Nat → Int32) → Option ((Nat → Int32) × (Nat → Int32) × (Nat → Int32))
  | 0 => fun _ _ _ _ _ _ _ => none
  | n + 1 => bFX7_done_96 N l0_31 l0_32 f2 f7 f9 f10 f11 rc0 (bfX7_done_96 N l0_31 l0_32 f2 f7 f9 f10 f11 rc0 n)
def bfX7_done_92 (N : Nat) (l0_31 : Int64) (l0_32 : Int64) (f2 : Nat → Int32) (f7 : Nat → Int32) (f9 : Nat → Int32) (f10 : Nat → Int32) (f11 : Nat → Int32) (rc0 : (Nat → Int32) → (Nat → Int32) → (Nat → Int32) → Option ((Nat → Int32) × (Nat → Int32) × (Nat → Int32))) (v1 : Int32) (v2 : Int32) (s0 : Int32) (f0 : Nat → Int32) (f3 : Nat → Int32) (f8 : Nat → Int32) : Option ((Nat → Int32) × (Nat → Int32) × (Nat → Int32)) := bfX7_done_96 N l0_31 l0_32 f2 f7 f9 f10 f11 rc0 N v1 v2 s0 (0 : Int32) f0 f3 f8
def bFX7_done_0 (N : Nat) (l0_31 : Int64) (l0_32 : Int64) (f2 : Nat → Int32) (f7 : Nat → Int32) (f9 : Nat → Int32) (f10 : Nat → Int32) (f11 : Nat → Int32) (rc0 : (Nat → Int32) → (Nat → Int32) → (Nat → Int32) → Option ((Nat → Int32) × (Nat → Int32) × (Nat → Int32))) (f0 : Nat → Int32) (f3 : Nat → Int32) (f8 : Nat → Int32) : Option ((Nat → Int32) × (Nat → Int32) × (Nat → Int32)) := if (f0 16) = 0 then gi_ (f0 2) 6 (if (f0 10) ≤ (f7 (f0 2).toNatClampNeg) then some (f0, f3, f8) else lt_ (upd f0 10 ((f0 10) - (1 : Int32))) (fun f0_17 => gi_ (f0_17 2) 6 (gi_ (f0_17 10) 170 (lt_ (((f2 (f0_17 2).toNatClampNeg) + (f11 (f0_17 10).toNatClampNeg))) (fun x_20 => gi_ (f0_17 2) 6 (gi_ (f0_17 10) 170 (lt_ (((f3 (f0_17 2).toNatClampNeg) - (f11 (f0_17 10).toNatClampNeg))) (fun x_23 => if x_23 = 0 then bfX7_done_92 N l0_31 l0_32 f2 f7 f9 f10 f11 rc0 x_20 x_23 (0 : Int32) f0_17 f3 f8 else gi_ (f0_17 10) 170 (bfX7_done_92 N l0_31 l0_32 f2 f7 f9 f10 f11 rc0 x_20 x_23 ((f9 (f0_17 10).toNatClampNeg) - (1 : Int32)) f0_17 f3 f8))))))))) else some (f0, f3, f8)
def bfX7_done_0 (N : Nat) (l0_31 : Int64) (l0_32 : Int64) (f2 : Nat → Int32) (f7 : Nat → Int32) (f9 : Nat → Int32) (f10 : Nat → Int32) (f11 : Nat → Int32) : Nat → (Nat → Int32) → (Nat → Int32) → (Nat → Int32) → Option ((Nat → Int32) × (Nat → Int32) × (Nat → Int32))
  | 0 => fun _ _ _ => none
  | n + 1 => bFX7_done_0 N l0_31 l0_32 f2 f7 f9 f10 f11  (bfX7_done_0 N l0_31 l0_32 f2 f7 f9 f10 f11  n)
def pX7_done (N : Nat) (f0 : Nat → Int32) (l0_31 : Int64) (l0_32 : Int64) (f2 : Nat → Int32) (f3 : Nat → Int32) (f7 : Nat → Int32) (f8 : Nat → Int32) (f9 : Nat → Int32) (f10 : Nat → Int32) (f11 : Nat → Int32) : Option ((Nat → Int32) × (Nat → Int32) × (Nat → Int32)) := bfX7_done_0 N l0_31 l0_32 f2 f7 f9 f10 f11 N f0 f3 f8
set_option maxHeartbeats 4000000 in
set_option maxRecDepth 100000 in
theorem bwX7_done_155 {p : Program} {l : Launch} {e : Env} {s : State} {m : MethodId} {args : Array Value} {below : List Frame} {meth : Method} {c : Code} {D : va_G} {A : Nat → Prop} {cA : ClassId} {q0 q1 q2 q3 q4 q5 q6 q7 q8 q9 q10 q11 q12 q13 : Nat} {res : (Nat → Int32) × (Nat → Int32) × (Nat → Int32)} (C0 : cx p s m args meth c cX7_done 7 RX7 wsX7_done none D vwCl [(cA, .int)] A) (N : Nat) (l0_31 : Int64) (l0_32 : Int64) (f2 : Nat → Int32) (f7 : Nat → Int32) (f9 : Nat → Int32) (f10 : Nat → Int32) (f11 : Nat → Int32) (rc0 : (Nat → Int32) → (Nat → Int32) → (Nat → Int32) → Option ((Nat → Int32) × (Nat → Int32) × (Nat → Int32))) (rc96 : Int32 → Int32 → Int32 → Int32 → (Nat → Int32) → (Nat → Int32) → (Nat → Int32) → Option ((Nat → Int32) × (Nat → Int32) × (Nat → Int32))) (hrc0 : ∀ (f0 : Nat → Int32) (f3 : Nat → Int32) (f8 : Nat → Int32), rc0 f0 f3 f8 = some res → At_ p l e (rmX7_done) s m args below meth c D vwCl A 7 0 0 (Qv_ below args s D vwCl A (wdX7_6 cA q0 q1 q2 q3 q4 q5 q6 q7 q8 q9 q10 q11 q12 q13 res.1 l0_31 l0_32 f2 res.2.1 f7 res.2.2 f9 f10 f11)) 0 [(0, .ref q0)] [] (wdX7_6 cA q0 q1 q2 q3 q4 q5 q6 q7 q8 q9 q10 q11 q12 q13 f0 l0_31 l0_32 f2 f3 f7 f8 f9 f10 f11)) (hrc96 : ∀ (v1 : Int32) (v2 : Int32) (v3 : Int32) (v4 : Int32) (f0 : Nat → Int32) (f3 : Nat → Int32) (f8 : Nat → Int32), rc96 v1 v2 v3 v4 f0 f3 f8 = some res → At_ p l e (rmX7_done) s m args below meth c D vwCl A 7 0 0 (Qv_ below args s D vwCl A (wdX7_6 cA q0 q1 q2 q3 q4 q5 q6 q7 q8 q9 q10 q11 q12 q13 res.1 l0_31 l0_32 f2 res.2.1 f7 res.2.2 f9 f10 f11)) 96 [(0, .ref q0), (1, .int v1), (2, .int v2), (3, .int v3), (4, .int v4)] [] (wdX7_6 cA q0 q1 q2 q3 q4 q5 q6 q7 q8 q9 q10 q11 q12 q13 f0 l0_31 l0_32 f2 f3 f7 f8 f9 f10 f11)) (v1 : Int32) (v2 : Int32) (v3 : Int32) (v4 : Int32) (f0 : Nat → Int32) (f3 : Nat → Int32) (f8 : Nat → Int32) (h : bfX7_done_155 N l0_31 l0_32 f2 f7 f9 f10 f11 rc0 rc96 v1 v2 v3 v4 f0 f3 f8 = some res) : At_ p l e (rmX7_done) s m args below meth c D vwCl A 7 0 0 (Qv_ below args s D vwCl A (wdX7_6 cA q0 q1 q2 q3 q4 q5 q6 q7 q8 q9 q10 q11 q12 q13 res.1 l0_31 l0_32 f2 res.2.1 f7 res.2.2 f9 f10 f11)) 155 [(0, .ref q0), (1, .int v1), (2, .int v2), (3, .int v3), (4, .int v4)] [] (wdX7_6 cA q0 q1 q2 q3 q4 q5 q6 q7 q8 q9 q10 q11 q12 q13 f0 l0_31 l0_32 f2 f3 f7 f8 f9 f10 f11) := by
  unfold bfX7_done_155 at h
  obtain ⟨x_1, ex_1, h⟩ := lt_e h
  refine a_iinc C0 x_1 [(4, .int x_1), (0, .ref q0), (1, .int v1), (2, .int v2), (3, .int v3)] dX7_done_155 4 rfl (by subst ex_1; rfl) (by decide) rfl ?_
  refine a_goto C0 96 dX7_done_158 (by decide) ?_
  refine a_lv [1, 2, 3, 4, 0] (lv' := [(0, .ref q0), (1, .int v1), (2, .int v2), (3, .int v3), (4, .int x_1)]) rfl ?_
  exact hrc96 v1 v2 v3 x_1 f0 f3 f8 h
set_option maxHeartbeats 4000000 in
set_option maxRecDepth 100000 in
theorem bwX7_done_112 {p : Program} {l : Launch} {e : Env} {s : State} {m : MethodId} {args : Array Value} {below : List Frame} {meth : Method} {c : Code} {D : va_G} {A : Nat → Prop} {cA : ClassId} {q0 q1 q2 q3 q4 q5 q6 q7 q8 q9 q10 q11 q12 q13 : Nat} {res : (Nat → Int32) × (Nat → Int32) × (Nat → Int32)} (C0 : cx p s m args meth c cX7_done 7 RX7 wsX7_done none D vwCl [(cA, .int)] A) (N : Nat) (l0_31 : Int64) (l0_32 : Int64) (f2 : Nat → Int32) (f7 : Nat → Int32) (f9 : Nat → Int32) (f10 : Nat → Int32) (f11 : Nat → Int32) (rc0 : (Nat → Int32) → (Nat → Int32) → (Nat → Int32) → Option ((Nat → Int32) × (Nat → Int32) × (Nat → Int32))) (rc96 : Int32 → Int32 → Int32 → Int32 → (Nat → Int32) → (Nat → Int32) → (Nat → Int32) → Option ((Nat → Int32) × (Nat → Int32) × (Nat → Int32))) (hrc0 : ∀ (f0 : Nat → Int32) (f3 : Nat → Int32) (f8 : Nat → Int32), rc0 f0 f3 f8 = some res → At_ p l e (rmX7_done) s m args below meth c D vwCl A 7 0 0 (Qv_ below args s D vwCl A (wdX7_6 cA q0 q1 q2 q3 q4 q5 q6 q7 q8 q9 q10 q11 q12 q13 res.1 l0_31 l0_32 f2 res.2.1 f7 res.2.2 f9 f10 f11)) 0 [(0, .ref q0)] [] (wdX7_6 cA q0 q1 q2 q3 q4 q5 q6 q7 q8 q9 q10 q11 q12 q13 f0 l0_31 l0_32 f2 f3 f7 f8 f9 f10 f11)) (hrc96 : ∀ (v1 : Int32) (v2 : Int32) (v3 : Int32) (v4 : Int32) (f0 : Nat → Int32) (f3 : Nat → Int32) (f8 : Nat → Int32), rc96 v1 v2 v3 v4 f0 f3 f8 = some res → At_ p l e (rmX7_done) s m args below meth c D vwCl A 7 0 0 (Qv_ below args s D vwCl A (wdX7_6 cA q0 q1 q2 q3 q4 q5 q6 q7 q8 q9 q10 q11 q12 q13 res.1 l0_31 l0_32 f2 res.2.1 f7 res.2.2 f9 f10 f11)) 96 [(0, .ref q0), (1, .int v1), (2, .int v2), (3, .int v3), (4, .int v4)] [] (wdX7_6 cA q0 q1 q2 q3 q4 q5 q6 q7 q8 q9 q10 q11 q12 q13 f0 l0_31 l0_32 f2 f3 f7 f8 f9 f10 f11)) : ∀ (n : Nat) (v1 : Int32) (v2 : Int32) (v3 : Int32) (v4 : Int32) (v5 : Int32) (f0 : Nat → Int32) (f3 : Nat → Int32) (f8 : Nat → Int32), bfX7_done_112 N l0_31 l0_32 f2 f7 f9 f10 f11 rc0 rc96 n v1 v2 v3 v4 v5 f0 f3 f8 = some res → At_ p l e (rmX7_done) s m args below meth c D vwCl A 7 0 0 (Qv_ below args s D vwCl A (wdX7_6 cA q0 q1 q2 q3 q4 q5 q6 q7 q8 q9 q10 q11 q12 q13 res.1 l0_31 l0_32 f2 res.2.1 f7 res.2.2 f9 f10 f11)) 112 [(0, .ref q0), (1, .int v1), (2, .int v2), (3, .int v3), (4, .int v4), (5, .int v5)] [] (wdX7_6 cA q0 q1 q2 q3 q4 q5 q6 q7 q8 q9 q10 q11 q12 q13 f0 l0_31 l0_32 f2 f3 f7 f8 f9 f10 f11) := by
  intro n
  induction n with
  | zero => intro v1 v2 v3 v4 v5 f0 f3 f8 h; cases h
  | succ n hrc112 =>
    intro v1 v2 v3 v4 v5 f0 f3 f8 h
    replace h : bFX7_done_112 N l0_31 l0_32 f2 f7 f9 f10 f11 rc0 rc96 (bfX7_done_112 N l0_31 l0_32 f2 f7 f9 f10 f11 rc0 rc96 n) v1 v2 v3 v4 v5 f0 f3 f8 = some res := h
    generalize bfX7_done_112 N l0_31 l0_32 f2 f7 f9 f10 f11 rc0 rc96 n = rc112 at h hrc112
    unfold bFX7_done_112 at h
    refine a_iload C0 dX7_done_112 5 rfl ?_
    refine a_iload_n C0 dX7_done_114 rfl 2 rfl ?_
    refine a_icmp_ge C0 155 dX7_done_115 (by decide) (fun c_2 => ?_) (fun c_2 => ?_)
    · have h := it_ c_2 h
      refine a_lv [0, 1, 2, 3, 4] (lv' := [(0, .ref q0), (1, .int v1), (2, .int v2), (3, .int v3), (4, .int v4)]) rfl ?_
      exact bwX7_done_155 C0 N l0_31 l0_32 f2 f7 f9 f10 f11 rc0 rc96 hrc0 hrc96 v1 v2 v3 v4 f0 f3 f8 h
    · have h := ie_ c_2 h
      refine a_aload_n C0 dX7_done_118 rfl 0 rfl ?_
      refine a_get C0 inX7_done_X7 0 rfl rfl 16 (by decide) lkX7_done_57 (fun _ h9 => h9) (.int (f0 16)) rfl dX7_done_119 ?_
      refine a_if_ne C0 155 dX7_done_122 (by decide) (fun c_3 => ?_) (fun c_3 => ?_)
      · have h := ie_ c_3 h
        refine a_lv [0, 1, 2, 3, 4] (lv' := [(0, .ref q0), (1, .int v1), (2, .int v2), (3, .int v3), (4, .int v4)]) rfl ?_
        exact bwX7_done_155 C0 N l0_31 l0_32 f2 f7 f9 f10 f11 rc0 rc96 hrc0 hrc96 v1 v2 v3 v4 f0 f3 f8 h
      · have h := it_ c_3 h
        refine a_aload_n C0 dX7_done_125 rfl 0 rfl ?_
        refine a_aload_n C0 dX7_done_126 rfl 0 rfl ?_
        refine a_get C0 inX7_done_X7 0 rfl rfl 9 (by decide) lkX7_done_31 (fun _ h9 => h9) (.ref q8) rfl dX7_done_127 ?_
        refine a_iload_n C0 dX7_done_130 rfl 1 rfl ?_
        refine a_iload C0 dX7_done_131 5 rfl ?_
        refine a_iadd C0 dX7_done_133 ?_
        obtain ⟨g_4, h⟩ := gi_e h
        refine a_iald C0 4 0 rfl rfl g_4 dX7_done_134 ?_
        refine a_aload_n C0 dX7_done_135 rfl 0 rfl ?_
        refine a_get C0 inX7_done_X7 0 rfl rfl 12 (by decide) lkX7_done_37 (fun _ h9 => h9) (.ref q10) rfl dX7_done_136 ?_
        refine a_aload_n C0 dX7_done_139 rfl 0 rfl ?_
        refine a_get C0 inX7_done_X7 0 rfl rfl 10 (by decide) lkX7_done_94 (fun _ h9 => h9) (.int (f0 10)) rfl dX7_done_140 ?_
        obtain ⟨g_5, h⟩ := gi_e h
        refine a_iald C0 6 0 rfl rfl g_5 dX7_done_143 ?_
        obtain ⟨r_6, f0_7, f3_8, f8_9, h_10, h⟩ := bd4_e h
        refine a_callVi C0 (wdX7_6 cA q0 q1 q2 q3 q4 q5 q6 q7 q8 q9 q10 q11 q12 q13 f0_7 l0_31 l0_32 f2 f3_8 f7 f8_9 f9 f10 f11) (As := [.int (f8 (v1 + v5).toNatClampNeg), .int (f10 (f0 10).toNatClampNeg)]) (rest := []) (ctX7_give l D cA q0 q1 q2 q3 q4 q5 q6 q7 q8 q9 q10 q11 q12 q13 (f8 (v1 + v5).toNatClampNeg) (f10 (f0 10).toNatClampNeg) f0 l0_31 l0_32 f2 f3 f8 h_10) (cwV 2 C0.1.2.2.2.2 gX7_done_X7_give rfl rfl rfl hdX7_give ⟨Nat.le_of_ble_eq_true rfl, Nat.le_of_ble_eq_true rfl⟩) [0, 1, 2, 4] [3, 5, 6, 7] [4, 5, 6, 0, 7, 1, 2, 3] rfl rfl rfl rfl (by decide) rfl rfl rfl rfl rfl rfl (Nat.le_of_ble_eq_true rfl) dX7_done_144 ⟨Nat.zero_le _, Nat.zero_le _⟩ ?_
        refine a_istore C0 [(6, .int r_6), (0, .ref q0), (1, .int v1), (2, .int v2), (3, .int v3), (4, .int v4), (5, .int v5)] dX7_done_147 (by decide) rfl ?_
        obtain ⟨x_11, ex_11, h⟩ := lt_e h
        refine a_iinc C0 x_11 [(5, .int x_11), (6, .int r_6), (0, .ref q0), (1, .int v1), (2, .int v2), (3, .int v3), (4, .int v4)] dX7_done_149 6 rfl (by subst ex_11; rfl) (by decide) rfl ?_
        refine a_goto C0 112 dX7_done_152 (by decide) ?_
        refine a_lv [2, 3, 4, 5, 6, 0] (lv' := [(0, .ref q0), (1, .int v1), (2, .int v2), (3, .int v3), (4, .int v4), (5, .int x_11)]) rfl ?_
        exact hrc112 v1 v2 v3 v4 x_11 f0_7 f3_8 f8_9 h
set_option maxHeartbeats 4000000 in
set_option maxRecDepth 100000 in
theorem bwX7_done_161 {p : Program} {l : Launch} {e : Env} {s : State} {m : MethodId} {args : Array Value} {below : List Frame} {meth : Method} {c : Code} {D : va_G} {A : Nat → Prop} {cA : ClassId} {q0 q1 q2 q3 q4 q5 q6 q7 q8 q9 q10 q11 q12 q13 : Nat} {res : (Nat → Int32) × (Nat → Int32) × (Nat → Int32)} (C0 : cx p s m args meth c cX7_done 7 RX7 wsX7_done none D vwCl [(cA, .int)] A) (N : Nat) (l0_31 : Int64) (l0_32 : Int64) (f2 : Nat → Int32) (f7 : Nat → Int32) (f9 : Nat → Int32) (f10 : Nat → Int32) (f11 : Nat → Int32) (rc0 : (Nat → Int32) → (Nat → Int32) → (Nat → Int32) → Option ((Nat → Int32) × (Nat → Int32) × (Nat → Int32))) (hrc0 : ∀ (f0 : Nat → Int32) (f3 : Nat → Int32) (f8 : Nat → Int32), rc0 f0 f3 f8 = some res → At_ p l e (rmX7_done) s m args below meth c D vwCl A 7 0 0 (Qv_ below args s D vwCl A (wdX7_6 cA q0 q1 q2 q3 q4 q5 q6 q7 q8 q9 q10 q11 q12 q13 res.1 l0_31 l0_32 f2 res.2.1 f7 res.2.2 f9 f10 f11)) 0 [(0, .ref q0)] [] (wdX7_6 cA q0 q1 q2 q3 q4 q5 q6 q7 q8 q9 q10 q11 q12 q13 f0 l0_31 l0_32 f2 f3 f7 f8 f9 f10 f11)) (f0 : Nat → Int32) (f3 : Nat → Int32) (f8 : Nat → Int32) (h : bfX7_done_161 N l0_31 l0_32 f2 f7 f9 f10 f11 rc0 f0 f3 f8 = some res) : At_ p l e (rmX7_done) s m args below meth c D vwCl A 7 0 0 (Qv_ below args s D vwCl A (wdX7_6 cA q0 q1 q2 q3 q4 q5 q6 q7 q8 q9 q10 q11 q12 q13 res.1 l0_31 l0_32 f2 res.2.1 f7 res.2.2 f9 f10 f11)) 161 [(0, .ref q0)] [] (wdX7_6 cA q0 q1 q2 q3 q4 q5 q6 q7 q8 q9 q10 q11 q12 q13 f0 l0_31 l0_32 f2 f3 f7 f8 f9 f10 f11) := by
  unfold bfX7_done_161 at h
  refine a_goto C0 0 dX7_done_161 (by decide) ?_
  exact hrc0 f0 f3 f8 h
set_option maxHeartbeats 4000000 in
set_option maxRecDepth 100000 in
theorem bwX7_done_96 {p : Program} {l : Launch} {e : Env} {s : State} {m : MethodId} {args : Array Value} {below : List Frame} {meth : Method} {c : Code} {D : va_G} {A : Nat → Prop} {cA : ClassId} {q0 q1 q2 q3 q4 q5 q6 q7 q8 q9 q10 q11 q12 q13 : Nat} {res : (Nat → Int32) × (Nat → Int32) × (Nat → Int32)} (C0 : cx p s m args meth c cX7_done 7 RX7 wsX7_done none D vwCl [(cA, .int)] A) (N : Nat) (l0_31 : Int64) (l0_32 : Int64) (f2 : Nat → Int32) (f7 : Nat → Int32) (f9 : Nat → Int32) (f10 : Nat → Int32) (f11 : Nat → Int32) (rc0 : (Nat → Int32) → (Nat → Int32) → (Nat → Int32) → Option ((Nat → Int32) × (Nat → Int32) × (Nat → Int32))) (hrc0 : ∀ (f0 : Nat → Int32) (f3 : Nat → Int32) (f8 : Nat → Int32), rc0 f0 f3 f8 = some res → At_ p l e (rmX7_done) s m args below meth c D vwCl A 7 0 0 (Qv_ below args s D vwCl A (wdX7_6 cA q0 q1 q2 q3 q4 q5 q6 q7 q8 q9 q10 q11 q12 q13 res.1 l0_31 l0_32 f2 res.2.1 f7 res.2.2 f9 f10 f11)) 0 [(0, .ref q0)] [] (wdX7_6 cA q0 q1 q2 q3 q4 q5 q6 q7 q8 q9 q10 q11 q12 q13 f0 l0_31 l0_32 f2 f3 f7 f8 f9 f10 f11)) : ∀ (n : Nat) (v1 : Int32) (v2 : Int32) (v3 : Int32) (v4 : Int32) (f0 : Nat → Int32) (f3 : Nat → Int32) (f8 : Nat → Int32), bfX7_done_96 N l0_31 l0_32 f2 f7 f9 f10 f11 rc0 n v1 v2 v3 v4 f0 f3 f8 = some res → At_ p l e (rmX7_done) s m args below meth c D vwCl A 7 0 0 (Qv_ below args s D vwCl A (wdX7_6 cA q0 q1 q2 q3 q4 q5 q6 q7 q8 q9 q10 q11 q12 q13 res.1 l0_31 l0_32 f2 res.2.1 f7 res.2.2 f9 f10 f11)) 96 [(0, .ref q0), (1, .int v1), (2, .int v2), (3, .int v3), (4, .int v4)] [] (wdX7_6 cA q0 q1 q2 q3 q4 q5 q6 q7 q8 q9 q10 q11 q12 q13 f0 l0_31 l0_32 f2 f3 f7 f8 f9 f10 f11) := by
  intro n
  induction n with
  | zero => intro v1 v2 v3 v4 f0 f3 f8 h; cases h
  | succ n hrc96 =>
    intro v1 v2 v3 v4 f0 f3 f8 h
    replace h : bFX7_done_96 N l0_31 l0_32 f2 f7 f9 f10 f11 rc0 (bfX7_done_96 N l0_31 l0_32 f2 f7 f9 f10 f11 rc0 n) v1 v2 v3 v4 f0 f3 f8 = some res := h
    generalize bfX7_done_96 N l0_31 l0_32 f2 f7 f9 f10 f11 rc0 n = rc96 at h hrc96
    unfold bFX7_done_96 at h
    refine a_iload C0 dX7_done_96 4 rfl ?_
    refine a_iload_n C0 dX7_done_98 rfl 3 rfl ?_
    refine a_icmp_ge C0 161 dX7_done_99 (by decide) (fun c_12 => ?_) (fun c_12 => ?_)
    · have h := it_ c_12 h
      refine a_lv [0] (lv' := [(0, .ref q0)]) rfl ?_
      exact bwX7_done_161 C0 N l0_31 l0_32 f2 f7 f9 f10 f11 rc0 hrc0 f0 f3 f8 h
    · have h := ie_ c_12 h
      refine a_aload_n C0 dX7_done_102 rfl 0 rfl ?_
      refine a_get C0 inX7_done_X7 0 rfl rfl 16 (by decide) lkX7_done_57 (fun _ h9 => h9) (.int (f0 16)) rfl dX7_done_103 ?_
      refine a_if_ne C0 161 dX7_done_106 (by decide) (fun c_13 => ?_) (fun c_13 => ?_)
      · have h := ie_ c_13 h
        refine a_lv [0] (lv' := [(0, .ref q0)]) rfl ?_
        exact bwX7_done_161 C0 N l0_31 l0_32 f2 f7 f9 f10 f11 rc0 hrc0 f0 f3 f8 h
      · have h := it_ c_13 h
        refine a_iconst C0 (0 : Int32) dX7_done_109 (by decide) ?_
        refine a_istore C0 [(5, .int (0 : Int32)), (0, .ref q0), (1, .int v1), (2, .int v2), (3, .int v3), (4, .int v4)] dX7_done_110 (by decide) rfl ?_
        refine a_lv [1, 2, 3, 4, 5, 0] (lv' := [(0, .ref q0), (1, .int v1), (2, .int v2), (3, .int v3), (4, .int v4), (5, .int (0 : Int32))]) rfl ?_
        exact bwX7_done_112 C0 N l0_31 l0_32 f2 f7 f9 f10 f11 rc0 rc96 hrc0 hrc96 N v1 v2 v3 v4 (0 : Int32) f0 f3 f8 h
set_option maxHeartbeats 4000000 in
set_option maxRecDepth 100000 in
theorem bwX7_done_92 {p : Program} {l : Launch} {e : Env} {s : State} {m : MethodId} {args : Array Value} {below : List Frame} {meth : Method} {c : Code} {D : va_G} {A : Nat → Prop} {cA : ClassId} {q0 q1 q2 q3 q4 q5 q6 q7 q8 q9 q10 q11 q12 q13 : Nat} {res : (Nat → Int32) × (Nat → Int32) × (Nat → Int32)} (C0 : cx p s m args meth c cX7_done 7 RX7 wsX7_done none D vwCl [(cA, .int)] A) (N : Nat) (l0_31 : Int64) (l0_32 : Int64) (f2 : Nat → Int32) (f7 : Nat → Int32) (f9 : Nat → Int32) (f10 : Nat → Int32) (f11 : Nat → Int32) (rc0 : (Nat → Int32) → (Nat → Int32) → (Nat → Int32) → Option ((Nat → Int32) × (Nat → Int32) × (Nat → Int32))) (hrc0 : ∀ (f0 : Nat → Int32) (f3 : Nat → Int32) (f8 : Nat → Int32), rc0 f0 f3 f8 = some res → At_ p l e (rmX7_done) s m args below meth c D vwCl A 7 0 0 (Qv_ below args s D vwCl A (wdX7_6 cA q0 q1 q2 q3 q4 q5 q6 q7 q8 q9 q10 q11 q12 q13 res.1 l0_31 l0_32 f2 res.2.1 f7 res.2.2 f9 f10 f11)) 0 [(0, .ref q0)] [] (wdX7_6 cA q0 q1 q2 q3 q4 q5 q6 q7 q8 q9 q10 q11 q12 q13 f0 l0_31 l0_32 f2 f3 f7 f8 f9 f10 f11)) (v1 : Int32) (v2 : Int32) (s0 : Int32) (f0 : Nat → Int32) (f3 : Nat → Int32) (f8 : Nat → Int32) (h : bfX7_done_92 N l0_31 l0_32 f2 f7 f9 f10 f11 rc0 v1 v2 s0 f0 f3 f8 = some res) : At_ p l e (rmX7_done) s m args below meth c D vwCl A 7 0 0 (Qv_ below args s D vwCl A (wdX7_6 cA q0 q1 q2 q3 q4 q5 q6 q7 q8 q9 q10 q11 q12 q13 res.1 l0_31 l0_32 f2 res.2.1 f7 res.2.2 f9 f10 f11)) 92 [(0, .ref q0), (1, .int v1), (2, .int v2)] [.int s0] (wdX7_6 cA q0 q1 q2 q3 q4 q5 q6 q7 q8 q9 q10 q11 q12 q13 f0 l0_31 l0_32 f2 f3 f7 f8 f9 f10 f11) := by
  unfold bfX7_done_92 at h
  refine a_istore_n C0 [(3, .int s0), (0, .ref q0), (1, .int v1), (2, .int v2)] dX7_done_92 rfl (by decide) rfl ?_
  refine a_iconst C0 (0 : Int32) dX7_done_93 (by decide) ?_
  refine a_istore C0 [(4, .int (0 : Int32)), (3, .int s0), (0, .ref q0), (1, .int v1), (2, .int v2)] dX7_done_94 (by decide) rfl ?_
  refine a_lv [2, 3, 4, 1, 0] (lv' := [(0, .ref q0), (1, .int v1), (2, .int v2), (3, .int s0), (4, .int (0 : Int32))]) rfl ?_
  exact bwX7_done_96 C0 N l0_31 l0_32 f2 f7 f9 f10 f11 rc0 hrc0 N v1 v2 s0 (0 : Int32) f0 f3 f8 h
set_option maxHeartbeats 4000000 in
set_option maxRecDepth 100000 in
theorem bwX7_done_0 {p : Program} {l : Launch} {e : Env} {s : State} {m : MethodId} {args : Array Value} {below : List Frame} {meth : Method} {c : Code} {D : va_G} {A : Nat → Prop} {cA : ClassId} {q0 q1 q2 q3 q4 q5 q6 q7 q8 q9 q10 q11 q12 q13 : Nat} {res : (Nat → Int32) × (Nat → Int32) × (Nat → Int32)} (C0 : cx p s m args meth c cX7_done 7 RX7 wsX7_done none D vwCl [(cA, .int)] A) (N : Nat) (l0_31 : Int64) (l0_32 : Int64) (f2 : Nat → Int32) (f7 : Nat → Int32) (f9 : Nat → Int32) (f10 : Nat → Int32) (f11 : Nat → Int32) : ∀ (n : Nat) (f0 : Nat → Int32) (f3 : Nat → Int32) (f8 : Nat → Int32), bfX7_done_0 N l0_31 l0_32 f2 f7 f9 f10 f11  n f0 f3 f8 = some res → At_ p l e (rmX7_done) s m args below meth c D vwCl A 7 0 0 (Qv_ below args s D vwCl A (wdX7_6 cA q0 q1 q2 q3 q4 q5 q6 q7 q8 q9 q10 q11 q12 q13 res.1 l0_31 l0_32 f2 res.2.1 f7 res.2.2 f9 f10 f11)) 0 [(0, .ref q0)] [] (wdX7_6 cA q0 q1 q2 q3 q4 q5 q6 q7 q8 q9 q10 q11 q12 q13 f0 l0_31 l0_32 f2 f3 f7 f8 f9 f10 f11) := by
  intro n
  induction n with
  | zero => intro f0 f3 f8 h; cases h
  | succ n hrc0 =>
    intro f0 f3 f8 h
    replace h : bFX7_done_0 N l0_31 l0_32 f2 f7 f9 f10 f11  (bfX7_done_0 N l0_31 l0_32 f2 f7 f9 f10 f11  n) f0 f3 f8 = some res := h
    generalize bfX7_done_0 N l0_31 l0_32 f2 f7 f9 f10 f11  n = rc0 at h hrc0
    unfold bFX7_done_0 at h
    refine a_aload_n C0 dX7_done_0 rfl 0 rfl ?_
    refine a_get C0 inX7_done_X7 0 rfl rfl 16 (by decide) lkX7_done_57 (fun _ h9 => h9) (.int (f0 16)) rfl dX7_done_1 ?_
    refine a_if_ne C0 164 dX7_done_4 (by decide) (fun c_14 => ?_) (fun c_14 => ?_)
    · have h := ie_ c_14 h
      obtain rfl := Option.some.inj h
      exact a_vret C0 dX7_done_164 rfl
    · have h := it_ c_14 h
      refine a_aload_n C0 dX7_done_7 rfl 0 rfl ?_
      refine a_get C0 inX7_done_X7 0 rfl rfl 10 (by decide) lkX7_done_94 (fun _ h9 => h9) (.int (f0 10)) rfl dX7_done_8 ?_
      refine a_aload_n C0 dX7_done_11 rfl 0 rfl ?_
      refine a_get C0 inX7_done_X7 0 rfl rfl 8 (by decide) lkX7_done_28 (fun _ h9 => h9) (.ref q7) rfl dX7_done_12 ?_
      refine a_aload_n C0 dX7_done_15 rfl 0 rfl ?_
      refine a_get C0 inX7_done_X7 0 rfl rfl 2 (by decide) lkX7_done_66 (fun _ h9 => h9) (.int (f0 2)) rfl dX7_done_16 ?_
      obtain ⟨g_15, h⟩ := gi_e h
      refine a_iald C0 3 0 rfl rfl g_15 dX7_done_19 ?_
      refine a_icmp_le C0 164 dX7_done_20 (by decide) (fun c_16 => ?_) (fun c_16 => ?_)
      · have h := it_ c_16 h
        obtain rfl := Option.some.inj h
        exact a_vret C0 dX7_done_164 rfl
      · have h := ie_ c_16 h
        refine a_aload_n C0 dX7_done_23 rfl 0 rfl ?_
        refine a_dup C0 dX7_done_24 rfl ?_
        refine a_get C0 inX7_done_X7 0 rfl rfl 10 (by decide) lkX7_done_94 (fun _ h9 => h9) (.int (f0 10)) rfl dX7_done_25 ?_
        refine a_iconst C0 (1 : Int32) dX7_done_28 (by decide) ?_
        refine a_isub C0 dX7_done_29 ?_
        obtain ⟨f0_17, ef0_17, h⟩ := lt_e h
        refine a_put C0 inX7_done_X7 tyX7 tyX7_ok nmX7 0 rfl rfl 10 (by decide) lkX7_done_94 (fun _ h9 => h9) rfl (ty := .int) (v := .int ((f0 10) - (1 : Int32))) (by decide +kernel) rfl rfl (Nat.le_of_ble_eq_true rfl) dX7_done_30 (wdX7_6 cA q0 q1 q2 q3 q4 q5 q6 q7 q8 q9 q10 q11 q12 q13 f0_17 l0_31 l0_32 f2 f3 f7 f8 f9 f10 f11) (by subst ef0_17; rfl) ?_
        refine a_aload_n C0 dX7_done_33 rfl 0 rfl ?_
        refine a_get C0 inX7_done_X7 0 rfl rfl 3 (by decide) lkX7_done_13 (fun _ h9 => h9) (.ref q2) rfl dX7_done_34 ?_
        refine a_aload_n C0 dX7_done_37 rfl 0 rfl ?_
        refine a_get C0 inX7_done_X7 0 rfl rfl 2 (by decide) lkX7_done_66 (fun _ h9 => h9) (.int (f0_17 2)) rfl dX7_done_38 ?_
        obtain ⟨g_18, h⟩ := gi_e h
        refine a_iald C0 1 0 rfl rfl g_18 dX7_done_41 ?_
        refine a_aload_n C0 dX7_done_42 rfl 0 rfl ?_
        refine a_get C0 inX7_done_X7 0 rfl rfl 13 (by decide) lkX7_done_40 (fun _ h9 => h9) (.ref q11) rfl dX7_done_43 ?_
        refine a_aload_n C0 dX7_done_46 rfl 0 rfl ?_
        refine a_get C0 inX7_done_X7 0 rfl rfl 10 (by decide) lkX7_done_94 (fun _ h9 => h9) (.int (f0_17 10)) rfl dX7_done_47 ?_
        obtain ⟨g_19, h⟩ := gi_e h
        refine a_iald C0 7 0 rfl rfl g_19 dX7_done_50 ?_
        refine a_iadd C0 dX7_done_51 ?_
        obtain ⟨x_20, ex_20, h⟩ := lt_e h
        refine a_topi ex_20 ?_
        refine a_istore_n C0 [(1, .int x_20), (0, .ref q0)] dX7_done_52 rfl (by decide) rfl ?_
        refine a_aload_n C0 dX7_done_53 rfl 1 rfl ?_
        refine a_get C0 inX7_done_X7 0 rfl rfl 4 (by decide) lkX7_done_16 (fun _ h9 => h9) (.ref q3) rfl dX7_done_54 ?_
        refine a_aload_n C0 dX7_done_57 rfl 1 rfl ?_
        refine a_get C0 inX7_done_X7 0 rfl rfl 2 (by decide) lkX7_done_66 (fun _ h9 => h9) (.int (f0_17 2)) rfl dX7_done_58 ?_
        obtain ⟨g_21, h⟩ := gi_e h
        refine a_iald C0 2 0 rfl rfl g_21 dX7_done_61 ?_
        refine a_aload_n C0 dX7_done_62 rfl 1 rfl ?_
        refine a_get C0 inX7_done_X7 0 rfl rfl 13 (by decide) lkX7_done_40 (fun _ h9 => h9) (.ref q11) rfl dX7_done_63 ?_
        refine a_aload_n C0 dX7_done_66 rfl 1 rfl ?_
        refine a_get C0 inX7_done_X7 0 rfl rfl 10 (by decide) lkX7_done_94 (fun _ h9 => h9) (.int (f0_17 10)) rfl dX7_done_67 ?_
        obtain ⟨g_22, h⟩ := gi_e h
        refine a_iald C0 7 0 rfl rfl g_22 dX7_done_70 ?_
        refine a_isub C0 dX7_done_71 ?_
        obtain ⟨x_23, ex_23, h⟩ := lt_e h
        refine a_topi ex_23 ?_
        refine a_istore_n C0 [(2, .int x_23), (1, .int x_20), (0, .ref q0)] dX7_done_72 rfl (by decide) rfl ?_
        refine a_iload_n C0 dX7_done_73 rfl 0 rfl ?_
        refine a_if_ne C0 81 dX7_done_74 (by decide) (fun c_24 => ?_) (fun c_24 => ?_)
        · have h := ie_ c_24 h
          refine a_aload_n C0 dX7_done_81 rfl 2 rfl ?_
          refine a_get C0 inX7_done_X7 0 rfl rfl 11 (by decide) lkX7_done_34 (fun _ h9 => h9) (.ref q9) rfl dX7_done_82 ?_
          refine a_aload_n C0 dX7_done_85 rfl 2 rfl ?_
          refine a_get C0 inX7_done_X7 0 rfl rfl 10 (by decide) lkX7_done_94 (fun _ h9 => h9) (.int (f0_17 10)) rfl dX7_done_86 ?_
          obtain ⟨g_25, h⟩ := gi_e h
          refine a_iald C0 5 0 rfl rfl g_25 dX7_done_89 ?_
          refine a_iconst C0 (1 : Int32) dX7_done_90 (by decide) ?_
          refine a_isub C0 dX7_done_91 ?_
          refine a_lv [2, 1, 0] (lv' := [(0, .ref q0), (1, .int x_20), (2, .int x_23)]) rfl ?_
          exact bwX7_done_92 C0 N l0_31 l0_32 f2 f7 f9 f10 f11 rc0 hrc0 x_20 x_23 ((f9 (f0_17 10).toNatClampNeg) - (1 : Int32)) f0_17 f3 f8 h
        · have h := it_ c_24 h
          refine a_iconst C0 (0 : Int32) dX7_done_77 (by decide) ?_
          refine a_goto C0 92 dX7_done_78 (by decide) ?_
          refine a_lv [2, 1, 0] (lv' := [(0, .ref q0), (1, .int x_20), (2, .int x_23)]) rfl ?_
          exact bwX7_done_92 C0 N l0_31 l0_32 f2 f7 f9 f10 f11 rc0 hrc0 x_20 x_23 (0 : Int32) f0_17 f3 f8 h
set_option maxHeartbeats 4000000 in
set_option maxRecDepth 100000 in
theorem bwX7_done {p : Program} {l : Launch} {e : Env} {s : State} {m : MethodId} {args : Array Value} {below : List Frame} {meth : Method} {c : Code} {D : va_G} {A : Nat → Prop} {cA : ClassId} {q0 q1 q2 q3 q4 q5 q6 q7 q8 q9 q10 q11 q12 q13 : Nat} {res : (Nat → Int32) × (Nat → Int32) × (Nat → Int32)} (C0 : cx p s m args meth c cX7_done 7 RX7 wsX7_done none D vwCl [(cA, .int)] A) (N : Nat) (f0 : Nat → Int32) (l0_31 : Int64) (l0_32 : Int64) (f2 : Nat → Int32) (f3 : Nat → Int32) (f7 : Nat → Int32) (f8 : Nat → Int32) (f9 : Nat → Int32) (f10 : Nat → Int32) (f11 : Nat → Int32) (h : pX7_done N f0 l0_31 l0_32 f2 f3 f7 f8 f9 f10 f11 = some res) : At_ p l e (rmX7_done) s m args below meth c D vwCl A 7 0 0 (Qv_ below args s D vwCl A (wdX7_6 cA q0 q1 q2 q3 q4 q5 q6 q7 q8 q9 q10 q11 q12 q13 res.1 l0_31 l0_32 f2 res.2.1 f7 res.2.2 f9 f10 f11)) 0 [(0, .ref q0)] [] (wdX7_6 cA q0 q1 q2 q3 q4 q5 q6 q7 q8 q9 q10 q11 q12 q13 f0 l0_31 l0_32 f2 f3 f7 f8 f9 f10 f11) := by
  unfold pX7_done at h
  exact bwX7_done_0 C0 N l0_31 l0_32 f2 f7 f9 f10 f11 N f0 f3 f8 h
set_option maxRecDepth 100000 in
theorem ctX7_done (l : Launch) (D : va_G) (cA : ClassId) (q0 q1 q2 q3 q4 q5 q6 q7 q8 q9 q10 q11 q12 q13 : Nat) (N : Nat) (f0 : Nat → Int32) (l0_31 : Int64) (l0_32 : Int64) (f2 : Nat → Int32) (f3 : Nat → Int32) (f7 : Nat → Int32) (f8 : Nat → Int32) (f9 : Nat → Int32) (f10 : Nat → Int32) (f11 : Nat → Int32) {res : (Nat → Int32) × (Nat → Int32) × (Nat → Int32)} (h : pX7_done N f0 l0_31 l0_32 f2 f3 f7 f8 f9 f10 f11 = some res) : Ctv l yX7_done wsX7_done (rmX7_done) D vwCl [(cA, .int)] [.ref q0] (wdX7_6 cA q0 q1 q2 q3 q4 q5 q6 q7 q8 q9 q10 q11 q12 q13 f0 l0_31 l0_32 f2 f3 f7 f8 f9 f10 f11) (wdX7_6 cA q0 q1 q2 q3 q4 q5 q6 q7 q8 q9 q10 q11 q12 q13 res.1 l0_31 l0_32 f2 res.2.1 f7 res.2.2 f9 f10 f11) 0 0 :=
  ct_n (S := Unit) (maxL := 7) (cc := cX7_done) (by decide) rfl (Nat.le_of_ble_eq_true rfl) (fun p e s m below meth c _ C0 => bwX7_done C0 N f0 l0_31 l0_32 f2 f3 f7 f8 f9 f10 f11 h)
/-! PackDrawerModel.raw -/
abbrev wdX7_7 (cA : ClassId) (q0 q1 q2 q3 q4 q5 q6 q7 q8 q9 q10 q11 q12 q13 : Nat) (f0 : Nat → Int32) (l0_31 : Int64) (l0_32 : Int64) (f1 : Nat → Int32) (f2 : Nat → Int32) (f3 : Nat → Int32) (f4 : Nat → Int32) (f6 : Nat → Int32) (f7 : Nat → Int32) (f8 : Nat → Int32) (f9 : Nat → Int32) (f10 : Nat → Int32) (f11 : Nat → Int32) : va_W := [(q0, .inr (7, [.ref q1, .int (f0 1), .int (f0 2), .ref q2, .ref q3, .ref q4, .ref q5, .ref q6, .ref q7, .ref q8, .int (f0 10), .ref q9, .ref q10, .ref q11, .int (f0 14), .int (f0 15), .int (f0 16), .int (f0 17), .int (f0 18), .int (f0 19), .int (f0 20), .int (f0 21), .int (f0 22), .int (f0 23), .int (f0 24), .int (f0 25), .int (f0 26), .int (f0 27), .int (f0 28), .ref q12, .ref q13, .long l0_31, .long l0_32])), (q1, .inl (cA, 160, .inl f1)), (q2, .inl (cA, 6, .inl f2)), (q3, .inl (cA, 6, .inl f3)), (q4, .inl (cA, 6, .inl f4)), (q6, .inl (cA, 6, .inl f6)), (q7, .inl (cA, 6, .inl f7)), (q8, .inl (cA, 2000, .inl f8)), (q9, .inl (cA, 170, .inl f9)), (q10, .inl (cA, 170, .inl f10)), (q11, .inl (cA, 170, .inl f11))]
theorem hdX7_done : yX7_done.cls = RX7 ∧ yX7_done.cls ≠ "java/lang/invoke/MethodHandle" ∧ yX7_done.cls ≠ "java/lang/invoke/VarHandle" ∧ (parseMethodDescriptor yX7_done.desc).map (fun d => d.parameters.length) = some 0 := by decide +kernel
theorem hdX7_has : yX7_has.cls = RX7 ∧ yX7_has.cls ≠ "java/lang/invoke/MethodHandle" ∧ yX7_has.cls ≠ "java/lang/invoke/VarHandle" ∧ (parseMethodDescriptor yX7_has.desc).map (fun d => d.parameters.length) = some 1 := by decide +kernel
abbrev rmX7_raw : Room := { frames := 4, cells := 0, slots := 0, locals := 91 }
theorem lkX7_raw_57 : Cond.fieldLink RX7 57 RX7 (TX7 16).2.1 (TX7 16).2.2.1 ∈ wsX7_raw := by decide +kernel
theorem inX7_raw_X7 : ∀ w ∈ u_ws RX7 TX7 33, w ∈ wsX7_raw := by decide +kernel
theorem lkX7_raw_7 : Cond.fieldLink RX7 7 RX7 (TX7 0).2.1 (TX7 0).2.2.1 ∈ wsX7_raw := by decide +kernel
theorem lkX7_raw_63 : Cond.fieldLink RX7 63 RX7 (TX7 14).2.1 (TX7 14).2.2.1 ∈ wsX7_raw := by decide +kernel
def bfX7_raw_50 (N : Nat) (a1 : Int32) (a2 : Int32) (l0_31 : Int64) (l0_32 : Int64) (f1 : Nat → Int32) (f2 : Nat → Int32) (f4 : Nat → Int32) (f6 : Nat → Int32) (f7 : Nat → Int32) (f9 : Nat → Int32) (f10 : Nat → Int32) (f11 : Nat → Int32) (rc11 : Int32 → (Nat → Int32) → (Nat → Int32) → (Nat → Int32) → Option ((Nat → Int32) × (Nat → Int32) × (Nat → Int32))) (v3 : Int32) (f0 : Nat → Int32) (f3 : Nat → Int32) (f8 : Nat → Int32) : Option ((Nat → Int32) × (Nat → Int32) × (Nat → Int32)) := lt_ ((v3 + (1 : Int32))) (fun x_1 => rc11 x_1 f0 f3 f8)
def bfX7_raw_56 (N : Nat) (a1 : Int32) (a2 : Int32) (l0_31 : Int64) (l0_32 : Int64) (f1 : Nat → Int32) (f2 : Nat → Int32) (f4 : Nat → Int32) (f6 : Nat → Int32) (f7 : Nat → Int32) (f9 : Nat → Int32) (f10 : Nat → Int32) (f11 : Nat → Int32) (f0 : Nat → Int32) (f3 : Nat → Int32) (f8 : Nat → Int32) : Option ((Nat → Int32) × (Nat → Int32) × (Nat → Int32)) := bd3 (pX7_done N f0 l0_31 l0_32 f2 f3 f7 f8 f9 f10 f11) (fun f0_2 f3_3 f8_4 => some (f0_2, f3_3, f8_4))
def bFX7_raw_11 (N : Nat) (a1 : Int32) (a2 : Int32) (l0_31 : Int64) (l0_32 : Int64) (f1 : Nat → Int32) (f2 : Nat → Int32) (f4 : Nat → Int32) (f6 : Nat → Int32) (f7 : Nat → Int32) (f9 : Nat → Int32) (f10 : Nat → Int32) (f11 : Nat → Int32) (rc11 : Int32 → (Nat → Int32) → (Nat → Int32) → (Nat → Int32) → Option ((Nat → Int32) × (Nat → Int32) × (Nat → Int32))) (v3 : Int32) (f0 : Nat → Int32) (f3 : Nat → Int32) (f8 : Nat → Int32) : Option ((Nat → Int32) × (Nat → Int32) × (Nat → Int32)) := if a1 ≤ v3 then bfX7_raw_56 N a1 a2 l0_31 l0_32 f1 f2 f4 f6 f7 f9 f10 f11 f0 f3 f8 else if (f0 16) = 0 then gi_ (f0 14) 160 (bd4 (pX7_give (f1 (f0 14).toNatClampNeg) a2 f0 l0_31 l0_32 f2 f3 f8) (fun r_9 f0_10 f3_11 f8_12 => if r_9 = 0 then bfX7_raw_50 N a1 a2 l0_31 l0_32 f1 f2 f4 f6 f7 f9 f10 f11 rc11 v3 f0_10 f3_11 f8_12 else lt_ (upd f0_10 14 ((f0_10 14) + (1 : Int32))) (fun f0_15 => bfX7_raw_50 N a1 a2 l0_31 l0_32 f1 f2 f4 f6 f7 f9 f10 f11 rc11 v3 f0_15 f3_11 f8_12))) else bfX7_raw_56 N a1 a2 l0_31 l0_32 f1 f2 f4 f6 f7 f9 f10 f11 f0 f3 f8
def bfX7_raw_11 (N : Nat) (a1 : Int32) (a2 : Int32) (l0_31 : Int64) (l0_32 : Int64) (f1 : Nat → Int32) (f2 : Nat → Int32) (f4 : Nat → Int32) (f6 : Nat → Int32) (f7 : Nat → Int32) (f9 : Nat → Int32) (f10 : Nat → Int32) (f11 : Nat → Int32) : Nat → Int32 → (Nat → Int32) → (Nat → Int32) → (Nat → Int32) → Option ((Nat → Int32) × (Nat → Int32) × (Nat → Int32))
  | 0 => fun _ _ _ _ => none
  | n + 1 => bFX7_raw_11 N a1 a2 l0_31 l0_32 f1 f2 f4 f6 f7 f9 f10 f11  (bfX7_raw_11 N a1 a2 l0_31 l0_32 f1 f2 f4 f6 f7 f9 f10 f11  n)
def pX7_raw (N : Nat) (a1 : Int32) (a2 : Int32) (f0 : Nat → Int32) (l0_31 : Int64) (l0_32 : Int64) (f1 : Nat → Int32) (f2 : Nat → Int32) (f3 : Nat → Int32) (f4 : Nat → Int32) (f6 : Nat → Int32) (f7 : Nat → Int32) (f8 : Nat → Int32) (f9 : Nat → Int32) (f10 : Nat → Int32) (f11 : Nat → Int32) : Option ((Nat → Int32) × (Nat → Int32) × (Nat → Int32)) := bd2 (pX7_has a1 f0 l0_31 l0_32 f4 f6) (fun r_16 f0_17 => if r_16 = 0 then some (f0_17, f3, f8) else bfX7_raw_11 N a1 a2 l0_31 l0_32 f1 f2 f4 f6 f7 f9 f10 f11 N (0 : Int32) f0_17 f3 f8)
set_option maxHeartbeats 4000000 in
set_option maxRecDepth 100000 in
theorem bwX7_raw_50 {p : Program} {l : Launch} {e : Env} {s : State} {m : MethodId} {args : Array Value} {below : List Frame} {meth : Method} {c : Code} {D : va_G} {A : Nat → Prop} {cA : ClassId} {q0 q1 q2 q3 q4 q5 q6 q7 q8 q9 q10 q11 q12 q13 : Nat} {res : (Nat → Int32) × (Nat → Int32) × (Nat → Int32)} (C0 : cx p s m args meth c cX7_raw 4 RX7 wsX7_raw none D vwCl [(cA, .int)] A) (N : Nat) (a1 : Int32) (a2 : Int32) (l0_31 : Int64) (l0_32 : Int64) (f1 : Nat → Int32) (f2 : Nat → Int32) (f4 : Nat → Int32) (f6 : Nat → Int32) (f7 : Nat → Int32) (f9 : Nat → Int32) (f10 : Nat → Int32) (f11 : Nat → Int32) (rc11 : Int32 → (Nat → Int32) → (Nat → Int32) → (Nat → Int32) → Option ((Nat → Int32) × (Nat → Int32) × (Nat → Int32))) (hrc11 : ∀ (v3 : Int32) (f0 : Nat → Int32) (f3 : Nat → Int32) (f8 : Nat → Int32), rc11 v3 f0 f3 f8 = some res → At_ p l e (rmX7_raw) s m args below meth c D vwCl A 4 0 0 (Qv_ below args s D vwCl A (wdX7_7 cA q0 q1 q2 q3 q4 q5 q6 q7 q8 q9 q10 q11 q12 q13 res.1 l0_31 l0_32 f1 f2 res.2.1 f4 f6 f7 res.2.2 f9 f10 f11)) 11 [(0, .ref q0), (1, .int a1), (2, .int a2), (3, .int v3)] [] (wdX7_7 cA q0 q1 q2 q3 q4 q5 q6 q7 q8 q9 q10 q11 q12 q13 f0 l0_31 l0_32 f1 f2 f3 f4 f6 f7 f8 f9 f10 f11)) (v3 : Int32) (f0 : Nat → Int32) (f3 : Nat → Int32) (f8 : Nat → Int32) (h : bfX7_raw_50 N a1 a2 l0_31 l0_32 f1 f2 f4 f6 f7 f9 f10 f11 rc11 v3 f0 f3 f8 = some res) : At_ p l e (rmX7_raw) s m args below meth c D vwCl A 4 0 0 (Qv_ below args s D vwCl A (wdX7_7 cA q0 q1 q2 q3 q4 q5 q6 q7 q8 q9 q10 q11 q12 q13 res.1 l0_31 l0_32 f1 f2 res.2.1 f4 f6 f7 res.2.2 f9 f10 f11)) 50 [(0, .ref q0), (1, .int a1), (2, .int a2), (3, .int v3)] [] (wdX7_7 cA q0 q1 q2 q3 q4 q5 q6 q7 q8 q9 q10 q11 q12 q13 f0 l0_31 l0_32 f1 f2 f3 f4 f6 f7 f8 f9 f10 f11) := by
  unfold bfX7_raw_50 at h
  obtain ⟨x_1, ex_1, h⟩ := lt_e h
  refine a_iinc C0 x_1 [(3, .int x_1), (0, .ref q0), (1, .int a1), (2, .int a2)] dX7_raw_50 3 rfl (by subst ex_1; rfl) (by decide) rfl ?_
  refine a_goto C0 11 dX7_raw_53 (by decide) ?_
  refine a_lv [1, 2, 3, 0] (lv' := [(0, .ref q0), (1, .int a1), (2, .int a2), (3, .int x_1)]) rfl ?_
  exact hrc11 x_1 f0 f3 f8 h
set_option maxHeartbeats 4000000 in
set_option maxRecDepth 100000 in
theorem bwX7_raw_56 {p : Program} {l : Launch} {e : Env} {s : State} {m : MethodId} {args : Array Value} {below : List Frame} {meth : Method} {c : Code} {D : va_G} {A : Nat → Prop} {cA : ClassId} {q0 q1 q2 q3 q4 q5 q6 q7 q8 q9 q10 q11 q12 q13 : Nat} {res : (Nat → Int32) × (Nat → Int32) × (Nat → Int32)} (C0 : cx p s m args meth c cX7_raw 4 RX7 wsX7_raw none D vwCl [(cA, .int)] A) (N : Nat) (a1 : Int32) (a2 : Int32) (l0_31 : Int64) (l0_32 : Int64) (f1 : Nat → Int32) (f2 : Nat → Int32) (f4 : Nat → Int32) (f6 : Nat → Int32) (f7 : Nat → Int32) (f9 : Nat → Int32) (f10 : Nat → Int32) (f11 : Nat → Int32) (f0 : Nat → Int32) (f3 : Nat → Int32) (f8 : Nat → Int32) (h : bfX7_raw_56 N a1 a2 l0_31 l0_32 f1 f2 f4 f6 f7 f9 f10 f11  f0 f3 f8 = some res) : At_ p l e (rmX7_raw) s m args below meth c D vwCl A 4 0 0 (Qv_ below args s D vwCl A (wdX7_7 cA q0 q1 q2 q3 q4 q5 q6 q7 q8 q9 q10 q11 q12 q13 res.1 l0_31 l0_32 f1 f2 res.2.1 f4 f6 f7 res.2.2 f9 f10 f11)) 56 [(0, .ref q0), (1, .int a1), (2, .int a2)] [] (wdX7_7 cA q0 q1 q2 q3 q4 q5 q6 q7 q8 q9 q10 q11 q12 q13 f0 l0_31 l0_32 f1 f2 f3 f4 f6 f7 f8 f9 f10 f11) := by
  unfold bfX7_raw_56 at h
  refine a_aload_n C0 dX7_raw_56 rfl 0 rfl ?_
  obtain ⟨f0_2, f3_3, f8_4, h_5, h⟩ := bd3_e h
  refine a_callVv C0 (wdX7_7 cA q0 q1 q2 q3 q4 q5 q6 q7 q8 q9 q10 q11 q12 q13 f0_2 l0_31 l0_32 f1 f2 f3_3 f4 f6 f7 f8_4 f9 f10 f11) (As := []) (rest := []) (ctX7_done l D cA q0 q1 q2 q3 q4 q5 q6 q7 q8 q9 q10 q11 q12 q13 N f0 l0_31 l0_32 f2 f3 f7 f8 f9 f10 f11 h_5) (cwV 0 C0.1.2.2.2.2 gX7_raw_X7_done rfl rfl rfl hdX7_done ⟨Nat.le_of_ble_eq_true rfl, Nat.le_of_ble_eq_true rfl⟩) [0, 2, 3, 6, 7, 8, 9, 10] [1, 4, 5] [3, 0, 4, 5, 1, 2, 6, 7, 8, 9, 10] rfl rfl rfl rfl (by decide) rfl rfl rfl rfl rfl rfl (Nat.le_of_ble_eq_true rfl) dX7_raw_57 ⟨Nat.zero_le _, Nat.zero_le _⟩ ?_
  obtain rfl := Option.some.inj h
  exact a_vret C0 dX7_raw_60 rfl
set_option maxHeartbeats 4000000 in
set_option maxRecDepth 100000 in
theorem bwX7_raw_11 {p : Program} {l : Launch} {e : Env} {s : State} {m : MethodId} {args : Array Value} {below : List Frame} {meth : Method} {c : Code} {D : va_G} {A : Nat → Prop} {cA : ClassId} {q0 q1 q2 q3 q4 q5 q6 q7 q8 q9 q10 q11 q12 q13 : Nat} {res : (Nat → Int32) × (Nat → Int32) × (Nat → Int32)} (C0 : cx p s m args meth c cX7_raw 4 RX7 wsX7_raw none D vwCl [(cA, .int)] A) (N : Nat) (a1 : Int32) (a2 : Int32) (l0_31 : Int64) (l0_32 : Int64) (f1 : Nat → Int32) (f2 : Nat → Int32) (f4 : Nat → Int32) (f6 : Nat → Int32) (f7 : Nat → Int32) (f9 : Nat → Int32) (f10 : Nat → Int32) (f11 : Nat → Int32) : ∀ (n : Nat) (v3 : Int32) (f0 : Nat → Int32) (f3 : Nat → Int32) (f8 : Nat → Int32), bfX7_raw_11 N a1 a2 l0_31 l0_32 f1 f2 f4 f6 f7 f9 f10 f11  n v3 f0 f3 f8 = some res → At_ p l e (rmX7_raw) s m args below meth c D vwCl A 4 0 0 (Qv_ below args s D vwCl A (wdX7_7 cA q0 q1 q2 q3 q4 q5 q6 q7 q8 q9 q10 q11 q12 q13 res.1 l0_31 l0_32 f1 f2 res.2.1 f4 f6 f7 res.2.2 f9 f10 f11)) 11 [(0, .ref q0), (1, .int a1), (2, .int a2), (3, .int v3)] [] (wdX7_7 cA q0 q1 q2 q3 q4 q5 q6 q7 q8 q9 q10 q11 q12 q13 f0 l0_31 l0_32 f1 f2 f3 f4 f6 f7 f8 f9 f10 f11) := by
  intro n
  induction n with
  | zero => intro v3 f0 f3 f8 h; cases h
  | succ n hrc11 =>
    intro v3 f0 f3 f8 h
    replace h : bFX7_raw_11 N a1 a2 l0_31 l0_32 f1 f2 f4 f6 f7 f9 f10 f11  (bfX7_raw_11 N a1 a2 l0_31 l0_32 f1 f2 f4 f6 f7 f9 f10 f11  n) v3 f0 f3 f8 = some res := h
    generalize bfX7_raw_11 N a1 a2 l0_31 l0_32 f1 f2 f4 f6 f7 f9 f10 f11  n = rc11 at h hrc11
    unfold bFX7_raw_11 at h
    refine a_iload_n C0 dX7_raw_11 rfl 3 rfl ?_
    refine a_iload_n C0 dX7_raw_12 rfl 1 rfl ?_
    refine a_icmp_ge C0 56 dX7_raw_13 (by decide) (fun c_6 => ?_) (fun c_6 => ?_)
    · have h := it_ c_6 h
      refine a_lv [0, 1, 2] (lv' := [(0, .ref q0), (1, .int a1), (2, .int a2)]) rfl ?_
      exact bwX7_raw_56 C0 N a1 a2 l0_31 l0_32 f1 f2 f4 f6 f7 f9 f10 f11 f0 f3 f8 h
    · have h := ie_ c_6 h
      refine a_aload_n C0 dX7_raw_16 rfl 0 rfl ?_
      refine a_get C0 inX7_raw_X7 0 rfl rfl 16 (by decide) lkX7_raw_57 (fun _ h9 => h9) (.int (f0 16)) rfl dX7_raw_17 ?_
      refine a_if_ne C0 56 dX7_raw_20 (by decide) (fun c_7 => ?_) (fun c_7 => ?_)
      · have h := ie_ c_7 h
        refine a_lv [0, 1, 2] (lv' := [(0, .ref q0), (1, .int a1), (2, .int a2)]) rfl ?_
        exact bwX7_raw_56 C0 N a1 a2 l0_31 l0_32 f1 f2 f4 f6 f7 f9 f10 f11 f0 f3 f8 h
      · have h := it_ c_7 h
        refine a_aload_n C0 dX7_raw_23 rfl 0 rfl ?_
        refine a_aload_n C0 dX7_raw_24 rfl 0 rfl ?_
        refine a_get C0 inX7_raw_X7 0 rfl rfl 0 (by decide) lkX7_raw_7 (fun _ h9 => h9) (.ref q1) rfl dX7_raw_25 ?_
        refine a_aload_n C0 dX7_raw_28 rfl 0 rfl ?_
        refine a_get C0 inX7_raw_X7 0 rfl rfl 14 (by decide) lkX7_raw_63 (fun _ h9 => h9) (.int (f0 14)) rfl dX7_raw_29 ?_
        obtain ⟨g_8, h⟩ := gi_e h
        refine a_iald C0 1 0 rfl rfl g_8 dX7_raw_32 ?_
        refine a_iload_n C0 dX7_raw_33 rfl 2 rfl ?_
        obtain ⟨r_9, f0_10, f3_11, f8_12, h_13, h⟩ := bd4_e h
        refine a_callVi C0 (wdX7_7 cA q0 q1 q2 q3 q4 q5 q6 q7 q8 q9 q10 q11 q12 q13 f0_10 l0_31 l0_32 f1 f2 f3_11 f4 f6 f7 f8_12 f9 f10 f11) (As := [.int (f1 (f0 14).toNatClampNeg), .int a2]) (rest := []) (ctX7_give l D cA q0 q1 q2 q3 q4 q5 q6 q7 q8 q9 q10 q11 q12 q13 (f1 (f0 14).toNatClampNeg) a2 f0 l0_31 l0_32 f2 f3 f8 h_13) (cwV 2 C0.1.2.2.2.2 gX7_raw_X7_give rfl rfl rfl hdX7_give ⟨Nat.le_of_ble_eq_true rfl, Nat.le_of_ble_eq_true rfl⟩) [0, 2, 3, 7] [1, 4, 5, 6, 8, 9, 10] [7, 0, 8, 9, 1, 2, 3, 10, 4, 5, 6] rfl rfl rfl rfl (by decide) rfl rfl rfl rfl rfl rfl (Nat.le_of_ble_eq_true rfl) dX7_raw_34 ⟨Nat.zero_le _, Nat.zero_le _⟩ ?_
        refine a_if_eq C0 50 dX7_raw_37 (by decide) (fun c_14 => ?_) (fun c_14 => ?_)
        · have h := it_ c_14 h
          exact bwX7_raw_50 C0 N a1 a2 l0_31 l0_32 f1 f2 f4 f6 f7 f9 f10 f11 rc11 hrc11 v3 f0_10 f3_11 f8_12 h
        · have h := ie_ c_14 h
          refine a_aload_n C0 dX7_raw_40 rfl 0 rfl ?_
          refine a_dup C0 dX7_raw_41 rfl ?_
          refine a_get C0 inX7_raw_X7 0 rfl rfl 14 (by decide) lkX7_raw_63 (fun _ h9 => h9) (.int (f0_10 14)) rfl dX7_raw_42 ?_
          refine a_iconst C0 (1 : Int32) dX7_raw_45 (by decide) ?_
          refine a_iadd C0 dX7_raw_46 ?_
          obtain ⟨f0_15, ef0_15, h⟩ := lt_e h
          refine a_put C0 inX7_raw_X7 tyX7 tyX7_ok nmX7 0 rfl rfl 14 (by decide) lkX7_raw_63 (fun _ h9 => h9) rfl (ty := .int) (v := .int ((f0_10 14) + (1 : Int32))) (by decide +kernel) rfl rfl (Nat.le_of_ble_eq_true rfl) dX7_raw_47 (wdX7_7 cA q0 q1 q2 q3 q4 q5 q6 q7 q8 q9 q10 q11 q12 q13 f0_15 l0_31 l0_32 f1 f2 f3_11 f4 f6 f7 f8_12 f9 f10 f11) (by subst ef0_15; rfl) ?_
          exact bwX7_raw_50 C0 N a1 a2 l0_31 l0_32 f1 f2 f4 f6 f7 f9 f10 f11 rc11 hrc11 v3 f0_15 f3_11 f8_12 h
set_option maxHeartbeats 4000000 in
set_option maxRecDepth 100000 in
theorem bwX7_raw {p : Program} {l : Launch} {e : Env} {s : State} {m : MethodId} {args : Array Value} {below : List Frame} {meth : Method} {c : Code} {D : va_G} {A : Nat → Prop} {cA : ClassId} {q0 q1 q2 q3 q4 q5 q6 q7 q8 q9 q10 q11 q12 q13 : Nat} {res : (Nat → Int32) × (Nat → Int32) × (Nat → Int32)} (C0 : cx p s m args meth c cX7_raw 4 RX7 wsX7_raw none D vwCl [(cA, .int)] A) (N : Nat) (a1 : Int32) (a2 : Int32) (f0 : Nat → Int32) (l0_31 : Int64) (l0_32 : Int64) (f1 : Nat → Int32) (f2 : Nat → Int32) (f3 : Nat → Int32) (f4 : Nat → Int32) (f6 : Nat → Int32) (f7 : Nat → Int32) (f8 : Nat → Int32) (f9 : Nat → Int32) (f10 : Nat → Int32) (f11 : Nat → Int32) (h : pX7_raw N a1 a2 f0 l0_31 l0_32 f1 f2 f3 f4 f6 f7 f8 f9 f10 f11 = some res) : At_ p l e (rmX7_raw) s m args below meth c D vwCl A 4 0 0 (Qv_ below args s D vwCl A (wdX7_7 cA q0 q1 q2 q3 q4 q5 q6 q7 q8 q9 q10 q11 q12 q13 res.1 l0_31 l0_32 f1 f2 res.2.1 f4 f6 f7 res.2.2 f9 f10 f11)) 0 [(0, .ref q0), (1, .int a1), (2, .int a2)] [] (wdX7_7 cA q0 q1 q2 q3 q4 q5 q6 q7 q8 q9 q10 q11 q12 q13 f0 l0_31 l0_32 f1 f2 f3 f4 f6 f7 f8 f9 f10 f11) := by
  unfold pX7_raw at h
  refine a_aload_n C0 dX7_raw_0 rfl 0 rfl ?_
  refine a_iload_n C0 dX7_raw_1 rfl 1 rfl ?_
  obtain ⟨r_16, f0_17, h_18, h⟩ := bd2_e h
  refine a_callVi C0 (wdX7_7 cA q0 q1 q2 q3 q4 q5 q6 q7 q8 q9 q10 q11 q12 q13 f0_17 l0_31 l0_32 f1 f2 f3 f4 f6 f7 f8 f9 f10 f11) (As := [.int a1]) (rest := []) (ctX7_has l D cA q0 q1 q2 q3 q4 q5 q6 q7 q8 q9 q10 q11 q12 q13 a1 f0 l0_31 l0_32 f4 f6 h_18) (cwV 1 C0.1.2.2.2.2 gX7_raw_X7_has rfl rfl rfl hdX7_has ⟨Nat.le_of_ble_eq_true rfl, Nat.le_of_ble_eq_true rfl⟩) [0, 4, 5] [1, 2, 3, 6, 7, 8, 9, 10] [8, 0, 1, 2, 9, 10, 3, 4, 5, 6, 7] rfl rfl rfl rfl (by decide) rfl rfl rfl rfl rfl rfl (Nat.le_of_ble_eq_true rfl) dX7_raw_2 ⟨Nat.zero_le _, Nat.zero_le _⟩ ?_
  refine a_if_ne C0 9 dX7_raw_5 (by decide) (fun c_19 => ?_) (fun c_19 => ?_)
  · have h := ie_ c_19 h
    refine a_iconst C0 (0 : Int32) dX7_raw_9 (by decide) ?_
    refine a_istore_n C0 [(3, .int (0 : Int32)), (0, .ref q0), (1, .int a1), (2, .int a2)] dX7_raw_10 rfl (by decide) rfl ?_
    refine a_lv [1, 2, 3, 0] (lv' := [(0, .ref q0), (1, .int a1), (2, .int a2), (3, .int (0 : Int32))]) rfl ?_
    exact bwX7_raw_11 C0 N a1 a2 l0_31 l0_32 f1 f2 f4 f6 f7 f9 f10 f11 N (0 : Int32) f0_17 f3 f8 h
  · have h := it_ c_19 h
    obtain rfl := Option.some.inj h
    exact a_vret C0 dX7_raw_8 rfl
set_option maxRecDepth 100000 in
theorem ctX7_raw (l : Launch) (D : va_G) (cA : ClassId) (q0 q1 q2 q3 q4 q5 q6 q7 q8 q9 q10 q11 q12 q13 : Nat) (N : Nat) (a1 : Int32) (a2 : Int32) (f0 : Nat → Int32) (l0_31 : Int64) (l0_32 : Int64) (f1 : Nat → Int32) (f2 : Nat → Int32) (f3 : Nat → Int32) (f4 : Nat → Int32) (f6 : Nat → Int32) (f7 : Nat → Int32) (f8 : Nat → Int32) (f9 : Nat → Int32) (f10 : Nat → Int32) (f11 : Nat → Int32) {res : (Nat → Int32) × (Nat → Int32) × (Nat → Int32)} (h : pX7_raw N a1 a2 f0 l0_31 l0_32 f1 f2 f3 f4 f6 f7 f8 f9 f10 f11 = some res) : Ctv l yX7_raw wsX7_raw (rmX7_raw) D vwCl [(cA, .int)] [.ref q0, .int a1, .int a2] (wdX7_7 cA q0 q1 q2 q3 q4 q5 q6 q7 q8 q9 q10 q11 q12 q13 f0 l0_31 l0_32 f1 f2 f3 f4 f6 f7 f8 f9 f10 f11) (wdX7_7 cA q0 q1 q2 q3 q4 q5 q6 q7 q8 q9 q10 q11 q12 q13 res.1 l0_31 l0_32 f1 f2 res.2.1 f4 f6 f7 res.2.2 f9 f10 f11) 0 0 :=
  ct_n (S := Unit) (maxL := 4) (cc := cX7_raw) (by decide) rfl (Nat.le_of_ble_eq_true rfl) (fun p e s m below meth c _ C0 => bwX7_raw C0 N a1 a2 f0 l0_31 l0_32 f1 f2 f3 f4 f6 f7 f8 f9 f10 f11 h)
/-! PackDrawerModel.inner -/
abbrev wdX7_8 (cA : ClassId) (q0 q1 q2 q3 q4 q5 q6 q7 q8 q9 q10 q11 q12 q13 : Nat) (f0 : Nat → Int32) (l0_31 : Int64) (l0_32 : Int64) (f1 : Nat → Int32) (f2 : Nat → Int32) (f3 : Nat → Int32) (f4 : Nat → Int32) (f5 : Nat → Int32) (f6 : Nat → Int32) (f7 : Nat → Int32) : va_W := [(q0, .inr (7, [.ref q1, .int (f0 1), .int (f0 2), .ref q2, .ref q3, .ref q4, .ref q5, .ref q6, .ref q7, .ref q8, .int (f0 10), .ref q9, .ref q10, .ref q11, .int (f0 14), .int (f0 15), .int (f0 16), .int (f0 17), .int (f0 18), .int (f0 19), .int (f0 20), .int (f0 21), .int (f0 22), .int (f0 23), .int (f0 24), .int (f0 25), .int (f0 26), .int (f0 27), .int (f0 28), .ref q12, .ref q13, .long l0_31, .long l0_32])), (q1, .inl (cA, 160, .inl f1)), (q2, .inl (cA, 6, .inl f2)), (q3, .inl (cA, 6, .inl f3)), (q4, .inl (cA, 6, .inl f4)), (q5, .inl (cA, 6, .inl f5)), (q6, .inl (cA, 6, .inl f6)), (q7, .inl (cA, 6, .inl f7))]
theorem hdX7_opens : yX7_opens.cls = RX7 ∧ yX7_opens.cls ≠ "java/lang/invoke/MethodHandle" ∧ yX7_opens.cls ≠ "java/lang/invoke/VarHandle" ∧ (parseMethodDescriptor yX7_opens.desc).map (fun d => d.parameters.length) = some 3 := by decide +kernel
abbrev rmX7_inner : Room := { frames := 2, cells := 0, slots := 0, locals := 43 }
theorem lkX7_inner_107 : Cond.fieldLink RX7 107 RX7 (TX7 26).2.1 (TX7 26).2.2.1 ∈ wsX7_inner := by decide +kernel
theorem inX7_inner_X7 : ∀ w ∈ u_ws RX7 TX7 33, w ∈ wsX7_inner := by decide +kernel
theorem lkX7_inner_66 : Cond.fieldLink RX7 66 RX7 (TX7 2).2.1 (TX7 2).2.2.1 ∈ wsX7_inner := by decide +kernel
theorem lkX7_inner_63 : Cond.fieldLink RX7 63 RX7 (TX7 14).2.1 (TX7 14).2.2.1 ∈ wsX7_inner := by decide +kernel
theorem lkX7_inner_7 : Cond.fieldLink RX7 7 RX7 (TX7 0).2.1 (TX7 0).2.2.1 ∈ wsX7_inner := by decide +kernel
theorem lkX7_inner_19 : Cond.fieldLink RX7 19 RX7 (TX7 5).2.1 (TX7 5).2.2.1 ∈ wsX7_inner := by decide +kernel
def bfX7_inner_17 (a1 : Int32) (l0_31 : Int64) (l0_32 : Int64) (f1 : Nat → Int32) (s1 : Int32) (f0 : Nat → Int32) (f2 : Nat → Int32) (f3 : Nat → Int32) (f4 : Nat → Int32) (f5 : Nat → Int32) (f6 : Nat → Int32) (f7 : Nat → Int32) : Option ((Nat → Int32) × (Nat → Int32) × (Nat → Int32) × (Nat → Int32) × (Nat → Int32) × (Nat → Int32) × (Nat → Int32)) := lt_ (upd f0 26 s1) (fun f0_1 => if ((f0_1 2) + (1 : Int32)) = (6 : Int32) then bd1 (pX7_fault (6 : Int32) a1 f0_1 l0_31 l0_32) (fun f0_24 => some (f0_24, f2, f3, f4, f5, f6, f7)) else bd2 (pX7_has (1 : Int32) f0_1 l0_31 l0_32 f4 f6) (fun r_3 f0_4 => if r_3 = 0 then some (f0_4, f2, f3, f4, f5, f6, f7) else lt_ ((f0_4 14)) (fun x_7 => gi_ (f0_4 14) 160 (lt_ ((f1 (f0_4 14).toNatClampNeg)) (fun x_9 => lt_ (upd f0_4 14 ((f0_4 14) + (1 : Int32))) (fun f0_10 => gi_ (f0_10 2) 6 (if ((f0_10 14) + x_9) ≤ (f4 (f0_10 2).toNatClampNeg) then lt_ (upd f0_10 2 ((f0_10 2) + (1 : Int32))) (fun f0_13 => bd7 (pX7_opens ((f0_13 14) + x_9) a1 x_7 f0_13 l0_31 l0_32 f2 f3 f4 f5 f6 f7) (fun f0_14 f2_15 f3_16 f4_17 f5_18 f6_19 f7_20 => some (f0_14, f2_15, f3_16, f4_17, f5_18, f6_19, f7_20))) else bd1 (pX7_fault (2 : Int32) x_7 f0_10 l0_31 l0_32) (fun f0_22 => some (f0_22, f2, f3, f4, f5, f6, f7)))))))))
def pX7_inner (a1 : Int32) (f0 : Nat → Int32) (l0_31 : Int64) (l0_32 : Int64) (f1 : Nat → Int32) (f2 : Nat → Int32) (f3 : Nat → Int32) (f4 : Nat → Int32) (f5 : Nat → Int32) (f6 : Nat → Int32) (f7 : Nat → Int32) : Option ((Nat → Int32) × (Nat → Int32) × (Nat → Int32) × (Nat → Int32) × (Nat → Int32) × (Nat → Int32) × (Nat → Int32)) := if (f0 26) = (-1 : Int32) then bfX7_inner_17 a1 l0_31 l0_32 f1 a1 f0 f2 f3 f4 f5 f6 f7 else bfX7_inner_17 a1 l0_31 l0_32 f1 (f0 26) f0 f2 f3 f4 f5 f6 f7
set_option maxHeartbeats 4000000 in
set_option maxRecDepth 100000 in
theorem bwX7_inner_17 {p : Program} {l : Launch} {e : Env} {s : State} {m : MethodId} {args : Array Value} {below : List Frame} {meth : Method} {c : Code} {D : va_G} {A : Nat → Prop} {cA : ClassId} {q0 q1 q2 q3 q4 q5 q6 q7 q8 q9 q10 q11 q12 q13 : Nat} {res : (Nat → Int32) × (Nat → Int32) × (Nat → Int32) × (Nat → Int32) × (Nat → Int32) × (Nat → Int32) × (Nat → Int32)} (C0 : cx p s m args meth c cX7_inner 4 RX7 wsX7_inner none D vwCl [(cA, .int)] A) (a1 : Int32) (l0_31 : Int64) (l0_32 : Int64) (f1 : Nat → Int32) (s1 : Int32) (f0 : Nat → Int32) (f2 : Nat → Int32) (f3 : Nat → Int32) (f4 : Nat → Int32) (f5 : Nat → Int32) (f6 : Nat → Int32) (f7 : Nat → Int32) (h : bfX7_inner_17 a1 l0_31 l0_32 f1  s1 f0 f2 f3 f4 f5 f6 f7 = some res) : At_ p l e (rmX7_inner) s m args below meth c D vwCl A 4 0 0 (Qv_ below args s D vwCl A (wdX7_8 cA q0 q1 q2 q3 q4 q5 q6 q7 q8 q9 q10 q11 q12 q13 res.1 l0_31 l0_32 f1 res.2.1 res.2.2.1 res.2.2.2.1 res.2.2.2.2.1 res.2.2.2.2.2.1 res.2.2.2.2.2.2)) 17 [(0, .ref q0), (1, .int a1)] [.int s1, .ref q0] (wdX7_8 cA q0 q1 q2 q3 q4 q5 q6 q7 q8 q9 q10 q11 q12 q13 f0 l0_31 l0_32 f1 f2 f3 f4 f5 f6 f7) := by
  unfold bfX7_inner_17 at h
  obtain ⟨f0_1, ef0_1, h⟩ := lt_e h
  refine a_put C0 inX7_inner_X7 tyX7 tyX7_ok nmX7 0 rfl rfl 26 (by decide) lkX7_inner_107 (fun _ h9 => h9) rfl (ty := .int) (v := .int s1) (by decide +kernel) rfl rfl (Nat.le_of_ble_eq_true rfl) dX7_inner_17 (wdX7_8 cA q0 q1 q2 q3 q4 q5 q6 q7 q8 q9 q10 q11 q12 q13 f0_1 l0_31 l0_32 f1 f2 f3 f4 f5 f6 f7) (by subst ef0_1; rfl) ?_
  refine a_aload_n C0 dX7_inner_20 rfl 0 rfl ?_
  refine a_get C0 inX7_inner_X7 0 rfl rfl 2 (by decide) lkX7_inner_66 (fun _ h9 => h9) (.int (f0_1 2)) rfl dX7_inner_21 ?_
  refine a_iconst C0 (1 : Int32) dX7_inner_24 (by decide) ?_
  refine a_iadd C0 dX7_inner_25 ?_
  refine a_bipush C0 (6 : Int32) dX7_inner_26 (by decide) ?_
  refine a_icmp_ne C0 39 dX7_inner_28 (by decide) (fun c_2 => ?_) (fun c_2 => ?_)
  · have h := ie_ c_2 h
    refine a_aload_n C0 dX7_inner_39 rfl 0 rfl ?_
    refine a_iconst C0 (1 : Int32) dX7_inner_40 (by decide) ?_
    obtain ⟨r_3, f0_4, h_5, h⟩ := bd2_e h
    refine a_callVi C0 (wdX7_8 cA q0 q1 q2 q3 q4 q5 q6 q7 q8 q9 q10 q11 q12 q13 f0_4 l0_31 l0_32 f1 f2 f3 f4 f5 f6 f7) (As := [.int (1 : Int32)]) (rest := []) (ctX7_has l D cA q0 q1 q2 q3 q4 q5 q6 q7 q8 q9 q10 q11 q12 q13 (1 : Int32) f0_1 l0_31 l0_32 f4 f6 h_5) (cwV 1 C0.1.2.2.2.2 gX7_inner_X7_has rfl rfl rfl hdX7_has ⟨Nat.le_of_ble_eq_true rfl, Nat.le_of_ble_eq_true rfl⟩) [0, 4, 6] [1, 2, 3, 5, 7] [5, 0, 1, 2, 6, 3, 7, 4] rfl rfl rfl rfl (by decide) rfl rfl rfl rfl rfl rfl (Nat.le_of_ble_eq_true rfl) dX7_inner_41 ⟨Nat.zero_le _, Nat.zero_le _⟩ ?_
    refine a_if_ne C0 48 dX7_inner_44 (by decide) (fun c_6 => ?_) (fun c_6 => ?_)
    · have h := ie_ c_6 h
      refine a_aload_n C0 dX7_inner_48 rfl 0 rfl ?_
      refine a_get C0 inX7_inner_X7 0 rfl rfl 14 (by decide) lkX7_inner_63 (fun _ h9 => h9) (.int (f0_4 14)) rfl dX7_inner_49 ?_
      obtain ⟨x_7, ex_7, h⟩ := lt_e h
      refine a_topi ex_7 ?_
      refine a_istore_n C0 [(2, .int x_7), (0, .ref q0), (1, .int a1)] dX7_inner_52 rfl (by decide) rfl ?_
      refine a_aload_n C0 dX7_inner_53 rfl 1 rfl ?_
      refine a_get C0 inX7_inner_X7 0 rfl rfl 0 (by decide) lkX7_inner_7 (fun _ h9 => h9) (.ref q1) rfl dX7_inner_54 ?_
      refine a_aload_n C0 dX7_inner_57 rfl 1 rfl ?_
      refine a_get C0 inX7_inner_X7 0 rfl rfl 14 (by decide) lkX7_inner_63 (fun _ h9 => h9) (.int (f0_4 14)) rfl dX7_inner_58 ?_
      obtain ⟨g_8, h⟩ := gi_e h
      refine a_iald C0 1 0 rfl rfl g_8 dX7_inner_61 ?_
      obtain ⟨x_9, ex_9, h⟩ := lt_e h
      refine a_topi ex_9 ?_
      refine a_istore_n C0 [(3, .int x_9), (2, .int x_7), (0, .ref q0), (1, .int a1)] dX7_inner_62 rfl (by decide) rfl ?_
      refine a_aload_n C0 dX7_inner_63 rfl 2 rfl ?_
      refine a_dup C0 dX7_inner_64 rfl ?_
      refine a_get C0 inX7_inner_X7 0 rfl rfl 14 (by decide) lkX7_inner_63 (fun _ h9 => h9) (.int (f0_4 14)) rfl dX7_inner_65 ?_
      refine a_iconst C0 (1 : Int32) dX7_inner_68 (by decide) ?_
      refine a_iadd C0 dX7_inner_69 ?_
      obtain ⟨f0_10, ef0_10, h⟩ := lt_e h
      refine a_put C0 inX7_inner_X7 tyX7 tyX7_ok nmX7 0 rfl rfl 14 (by decide) lkX7_inner_63 (fun _ h9 => h9) rfl (ty := .int) (v := .int ((f0_4 14) + (1 : Int32))) (by decide +kernel) rfl rfl (Nat.le_of_ble_eq_true rfl) dX7_inner_70 (wdX7_8 cA q0 q1 q2 q3 q4 q5 q6 q7 q8 q9 q10 q11 q12 q13 f0_10 l0_31 l0_32 f1 f2 f3 f4 f5 f6 f7) (by subst ef0_10; rfl) ?_
      refine a_aload_n C0 dX7_inner_73 rfl 2 rfl ?_
      refine a_get C0 inX7_inner_X7 0 rfl rfl 14 (by decide) lkX7_inner_63 (fun _ h9 => h9) (.int (f0_10 14)) rfl dX7_inner_74 ?_
      refine a_iload_n C0 dX7_inner_77 rfl 0 rfl ?_
      refine a_iadd C0 dX7_inner_78 ?_
      refine a_aload_n C0 dX7_inner_79 rfl 2 rfl ?_
      refine a_get C0 inX7_inner_X7 0 rfl rfl 5 (by decide) lkX7_inner_19 (fun _ h9 => h9) (.ref q4) rfl dX7_inner_80 ?_
      refine a_aload_n C0 dX7_inner_83 rfl 2 rfl ?_
      refine a_get C0 inX7_inner_X7 0 rfl rfl 2 (by decide) lkX7_inner_66 (fun _ h9 => h9) (.int (f0_10 2)) rfl dX7_inner_84 ?_
      obtain ⟨g_11, h⟩ := gi_e h
      refine a_iald C0 4 0 rfl rfl g_11 dX7_inner_87 ?_
      refine a_icmp_le C0 98 dX7_inner_88 (by decide) (fun c_12 => ?_) (fun c_12 => ?_)
      · have h := it_ c_12 h
        refine a_aload_n C0 dX7_inner_98 rfl 2 rfl ?_
        refine a_dup C0 dX7_inner_99 rfl ?_
        refine a_get C0 inX7_inner_X7 0 rfl rfl 2 (by decide) lkX7_inner_66 (fun _ h9 => h9) (.int (f0_10 2)) rfl dX7_inner_100 ?_
        refine a_iconst C0 (1 : Int32) dX7_inner_103 (by decide) ?_
        refine a_iadd C0 dX7_inner_104 ?_
        obtain ⟨f0_13, ef0_13, h⟩ := lt_e h
        refine a_put C0 inX7_inner_X7 tyX7 tyX7_ok nmX7 0 rfl rfl 2 (by decide) lkX7_inner_66 (fun _ h9 => h9) rfl (ty := .int) (v := .int ((f0_10 2) + (1 : Int32))) (by decide +kernel) rfl rfl (Nat.le_of_ble_eq_true rfl) dX7_inner_105 (wdX7_8 cA q0 q1 q2 q3 q4 q5 q6 q7 q8 q9 q10 q11 q12 q13 f0_13 l0_31 l0_32 f1 f2 f3 f4 f5 f6 f7) (by subst ef0_13; rfl) ?_
        refine a_aload_n C0 dX7_inner_108 rfl 2 rfl ?_
        refine a_aload_n C0 dX7_inner_109 rfl 2 rfl ?_
        refine a_get C0 inX7_inner_X7 0 rfl rfl 14 (by decide) lkX7_inner_63 (fun _ h9 => h9) (.int (f0_13 14)) rfl dX7_inner_110 ?_
        refine a_iload_n C0 dX7_inner_113 rfl 0 rfl ?_
        refine a_iadd C0 dX7_inner_114 ?_
        refine a_iload_n C0 dX7_inner_115 rfl 3 rfl ?_
        refine a_iload_n C0 dX7_inner_116 rfl 1 rfl ?_
        obtain ⟨f0_14, f2_15, f3_16, f4_17, f5_18, f6_19, f7_20, h_21, h⟩ := bd7_e h
        refine a_callVv C0 (wdX7_8 cA q0 q1 q2 q3 q4 q5 q6 q7 q8 q9 q10 q11 q12 q13 f0_14 l0_31 l0_32 f1 f2_15 f3_16 f4_17 f5_18 f6_19 f7_20) (As := [.int ((f0_13 14) + x_9), .int a1, .int x_7]) (rest := []) (ctX7_opens l D cA q0 q1 q2 q3 q4 q5 q6 q7 q8 q9 q10 q11 q12 q13 ((f0_13 14) + x_9) a1 x_7 f0_13 l0_31 l0_32 f2 f3 f4 f5 f6 f7 h_21) (cwV 3 C0.1.2.2.2.2 gX7_inner_X7_opens rfl rfl rfl hdX7_opens ⟨Nat.le_of_ble_eq_true rfl, Nat.le_of_ble_eq_true rfl⟩) [0, 2, 3, 4, 5, 6, 7] [1] [1, 0, 2, 3, 4, 5, 6, 7] rfl rfl rfl rfl (by decide) rfl rfl rfl rfl rfl rfl (Nat.le_of_ble_eq_true rfl) dX7_inner_117 ⟨Nat.zero_le _, Nat.zero_le _⟩ ?_
        obtain rfl := Option.some.inj h
        exact a_vret C0 dX7_inner_120 rfl
      · have h := ie_ c_12 h
        refine a_aload_n C0 dX7_inner_91 rfl 2 rfl ?_
        refine a_iconst C0 (2 : Int32) dX7_inner_92 (by decide) ?_
        refine a_iload_n C0 dX7_inner_93 rfl 1 rfl ?_
        obtain ⟨f0_22, h_23, h⟩ := bd1_e h
        refine a_callVv C0 (wdX7_8 cA q0 q1 q2 q3 q4 q5 q6 q7 q8 q9 q10 q11 q12 q13 f0_22 l0_31 l0_32 f1 f2 f3 f4 f5 f6 f7) (As := [.int (2 : Int32), .int x_7]) (rest := []) (ctX7_fault l D cA q0 q1 q2 q3 q4 q5 q6 q7 q8 q9 q10 q11 q12 q13 (2 : Int32) x_7 f0_10 l0_31 l0_32 h_23) (cwV 2 C0.1.2.2.2.2 gX7_inner_X7_fault rfl rfl rfl hdX7_fault ⟨Nat.le_of_ble_eq_true rfl, Nat.le_of_ble_eq_true rfl⟩) [0] [1, 2, 3, 4, 5, 6, 7] [7, 0, 1, 2, 3, 4, 5, 6] rfl rfl rfl rfl (by decide) rfl rfl rfl rfl rfl rfl (Nat.le_of_ble_eq_true rfl) dX7_inner_94 ⟨Nat.zero_le _, Nat.zero_le _⟩ ?_
        obtain rfl := Option.some.inj h
        exact a_vret C0 dX7_inner_97 rfl
    · have h := it_ c_6 h
      obtain rfl := Option.some.inj h
      exact a_vret C0 dX7_inner_47 rfl
  · have h := it_ c_2 h
    refine a_aload_n C0 dX7_inner_31 rfl 0 rfl ?_
    refine a_bipush C0 (6 : Int32) dX7_inner_32 (by decide) ?_
    refine a_iload_n C0 dX7_inner_34 rfl 1 rfl ?_
    obtain ⟨f0_24, h_25, h⟩ := bd1_e h
    refine a_callVv C0 (wdX7_8 cA q0 q1 q2 q3 q4 q5 q6 q7 q8 q9 q10 q11 q12 q13 f0_24 l0_31 l0_32 f1 f2 f3 f4 f5 f6 f7) (As := [.int (6 : Int32), .int a1]) (rest := []) (ctX7_fault l D cA q0 q1 q2 q3 q4 q5 q6 q7 q8 q9 q10 q11 q12 q13 (6 : Int32) a1 f0_1 l0_31 l0_32 h_25) (cwV 2 C0.1.2.2.2.2 gX7_inner_X7_fault rfl rfl rfl hdX7_fault ⟨Nat.le_of_ble_eq_true rfl, Nat.le_of_ble_eq_true rfl⟩) [0] [1, 2, 3, 4, 5, 6, 7] [7, 0, 1, 2, 3, 4, 5, 6] rfl rfl rfl rfl (by decide) rfl rfl rfl rfl rfl rfl (Nat.le_of_ble_eq_true rfl) dX7_inner_35 ⟨Nat.zero_le _, Nat.zero_le _⟩ ?_
    obtain rfl := Option.some.inj h
    exact a_vret C0 dX7_inner_38 rfl
set_option maxHeartbeats 4000000 in
set_option maxRecDepth 100000 in
theorem bwX7_inner {p : Program} {l : Launch} {e : Env} {s : State} {m : MethodId} {args : Array Value} {below : List Frame} {meth : Method} {c : Code} {D : va_G} {A : Nat → Prop} {cA : ClassId} {q0 q1 q2 q3 q4 q5 q6 q7 q8 q9 q10 q11 q12 q13 : Nat} {res : (Nat → Int32) × (Nat → Int32) × (Nat → Int32) × (Nat → Int32) × (Nat → Int32) × (Nat → Int32) × (Nat → Int32)} (C0 : cx p s m args meth c cX7_inner 4 RX7 wsX7_inner none D vwCl [(cA, .int)] A) (a1 : Int32) (f0 : Nat → Int32) (l0_31 : Int64) (l0_32 : Int64) (f1 : Nat → Int32) (f2 : Nat → Int32) (f3 : Nat → Int32) (f4 : Nat → Int32) (f5 : Nat → Int32) (f6 : Nat → Int32) (f7 : Nat → Int32) (h : pX7_inner a1 f0 l0_31 l0_32 f1 f2 f3 f4 f5 f6 f7 = some res) : At_ p l e (rmX7_inner) s m args below meth c D vwCl A 4 0 0 (Qv_ below args s D vwCl A (wdX7_8 cA q0 q1 q2 q3 q4 q5 q6 q7 q8 q9 q10 q11 q12 q13 res.1 l0_31 l0_32 f1 res.2.1 res.2.2.1 res.2.2.2.1 res.2.2.2.2.1 res.2.2.2.2.2.1 res.2.2.2.2.2.2)) 0 [(0, .ref q0), (1, .int a1)] [] (wdX7_8 cA q0 q1 q2 q3 q4 q5 q6 q7 q8 q9 q10 q11 q12 q13 f0 l0_31 l0_32 f1 f2 f3 f4 f5 f6 f7) := by
  unfold pX7_inner at h
  refine a_aload_n C0 dX7_inner_0 rfl 0 rfl ?_
  refine a_aload_n C0 dX7_inner_1 rfl 0 rfl ?_
  refine a_get C0 inX7_inner_X7 0 rfl rfl 26 (by decide) lkX7_inner_107 (fun _ h9 => h9) (.int (f0 26)) rfl dX7_inner_2 ?_
  refine a_iconst C0 (-1 : Int32) dX7_inner_5 (by decide) ?_
  refine a_icmp_ne C0 13 dX7_inner_6 (by decide) (fun c_26 => ?_) (fun c_26 => ?_)
  · have h := ie_ c_26 h
    refine a_aload_n C0 dX7_inner_13 rfl 0 rfl ?_
    refine a_get C0 inX7_inner_X7 0 rfl rfl 26 (by decide) lkX7_inner_107 (fun _ h9 => h9) (.int (f0 26)) rfl dX7_inner_14 ?_
    exact bwX7_inner_17 C0 a1 l0_31 l0_32 f1 (f0 26) f0 f2 f3 f4 f5 f6 f7 h
  · have h := it_ c_26 h
    refine a_iload_n C0 dX7_inner_9 rfl 1 rfl ?_
    refine a_goto C0 17 dX7_inner_10 (by decide) ?_
    exact bwX7_inner_17 C0 a1 l0_31 l0_32 f1 a1 f0 f2 f3 f4 f5 f6 f7 h
set_option maxRecDepth 100000 in
theorem ctX7_inner (l : Launch) (D : va_G) (cA : ClassId) (q0 q1 q2 q3 q4 q5 q6 q7 q8 q9 q10 q11 q12 q13 : Nat) (a1 : Int32) (f0 : Nat → Int32) (l0_31 : Int64) (l0_32 : Int64) (f1 : Nat → Int32) (f2 : Nat → Int32) (f3 : Nat → Int32) (f4 : Nat → Int32) (f5 : Nat → Int32) (f6 : Nat → Int32) (f7 : Nat → Int32) {res : (Nat → Int32) × (Nat → Int32) × (Nat → Int32) × (Nat → Int32) × (Nat → Int32) × (Nat → Int32) × (Nat → Int32)} (h : pX7_inner a1 f0 l0_31 l0_32 f1 f2 f3 f4 f5 f6 f7 = some res) : Ctv l yX7_inner wsX7_inner (rmX7_inner) D vwCl [(cA, .int)] [.ref q0, .int a1] (wdX7_8 cA q0 q1 q2 q3 q4 q5 q6 q7 q8 q9 q10 q11 q12 q13 f0 l0_31 l0_32 f1 f2 f3 f4 f5 f6 f7) (wdX7_8 cA q0 q1 q2 q3 q4 q5 q6 q7 q8 q9 q10 q11 q12 q13 res.1 l0_31 l0_32 f1 res.2.1 res.2.2.1 res.2.2.2.1 res.2.2.2.2.1 res.2.2.2.2.2.1 res.2.2.2.2.2.2) 0 0 :=
  ct_n (S := Unit) (maxL := 4) (cc := cX7_inner) (by decide) rfl (Nat.le_of_ble_eq_true rfl) (fun p e s m below meth c _ C0 => bwX7_inner C0 a1 f0 l0_31 l0_32 f1 f2 f3 f4 f5 f6 f7 h)
/-! PackDrawerModel.copy -/
abbrev rmX7_copy : Room := { frames := 4, cells := 0, slots := 0, locals := 91 }
theorem lkX7_copy_57 : Cond.fieldLink RX7 57 RX7 (TX7 16).2.1 (TX7 16).2.2.1 ∈ wsX7_copy := by decide +kernel
theorem inX7_copy_X7 : ∀ w ∈ u_ws RX7 TX7 33, w ∈ wsX7_copy := by decide +kernel
theorem lkX7_copy_31 : Cond.fieldLink RX7 31 RX7 (TX7 9).2.1 (TX7 9).2.2.1 ∈ wsX7_copy := by decide +kernel
theorem lkX7_copy_13 : Cond.fieldLink RX7 13 RX7 (TX7 3).2.1 (TX7 3).2.2.1 ∈ wsX7_copy := by decide +kernel
theorem lkX7_copy_66 : Cond.fieldLink RX7 66 RX7 (TX7 2).2.1 (TX7 2).2.2.1 ∈ wsX7_copy := by decide +kernel
theorem lkX7_copy_16 : Cond.fieldLink RX7 16 RX7 (TX7 4).2.1 (TX7 4).2.2.1 ∈ wsX7_copy := by decide +kernel
theorem lkX7_copy_110 : Cond.fieldLink RX7 110 RX7 (TX7 27).2.1 (TX7 27).2.2.1 ∈ wsX7_copy := by decide +kernel
theorem lkX7_copy_7 : Cond.fieldLink RX7 7 RX7 (TX7 0).2.1 (TX7 0).2.2.1 ∈ wsX7_copy := by decide +kernel
theorem lkX7_copy_63 : Cond.fieldLink RX7 63 RX7 (TX7 14).2.1 (TX7 14).2.2.1 ∈ wsX7_copy := by decide +kernel
def bfX7_copy_129 (N : Nat) (a1 : Int32) (a2 : Int32) (l0_31 : Int64) (l0_32 : Int64) (f1 : Nat → Int32) (f2 : Nat → Int32) (f4 : Nat → Int32) (f6 : Nat → Int32) (f7 : Nat → Int32) (f9 : Nat → Int32) (f10 : Nat → Int32) (f11 : Nat → Int32) (f0 : Nat → Int32) (f3 : Nat → Int32) (f8 : Nat → Int32) : Option ((Nat → Int32) × (Nat → Int32) × (Nat → Int32)) := bd3 (pX7_done N f0 l0_31 l0_32 f2 f3 f7 f8 f9 f10 f11) (fun f0_1 f3_2 f8_3 => some (f0_1, f3_2, f8_3))
def bFX7_copy_77 (N : Nat) (a1 : Int32) (a2 : Int32) (l0_31 : Int64) (l0_32 : Int64) (f1 : Nat → Int32) (f2 : Nat → Int32) (f4 : Nat → Int32) (f6 : Nat → Int32) (f7 : Nat → Int32) (f9 : Nat → Int32) (f10 : Nat → Int32) (f11 : Nat → Int32) (rc77 : Int32 → Int32 → (Nat → Int32) → (Nat → Int32) → (Nat → Int32) → Option ((Nat → Int32) × (Nat → Int32) × (Nat → Int32))) (v3 : Int32) (v4 : Int32) (f0 : Nat → Int32) (f3 : Nat → Int32) (f8 : Nat → Int32) : Option ((Nat → Int32) × (Nat → Int32) × (Nat → Int32)) := if a1 ≤ v4 then bfX7_copy_129 N a1 a2 l0_31 l0_32 f1 f2 f4 f6 f7 f9 f10 f11 f0 f3 f8 else if (f0 16) = 0 then gi_ (f0 2) 6 (gi_ (f0 2) 6 (gi_ (((f2 (f0 2).toNatClampNeg) + (f3 (f0 2).toNatClampNeg)) - v3) 2000 (bd4 (pX7_give (f8 (((f2 (f0 2).toNatClampNeg) + (f3 (f0 2).toNatClampNeg)) - v3).toNatClampNeg) a2 f0 l0_31 l0_32 f2 f3 f8) (fun r_10 f0_11 f3_12 f8_13 => lt_ ((v4 + (1 : Int32))) (fun x_15 => rc77 v3 x_15 f0_11 f3_12 f8_13))))) else bfX7_copy_129 N a1 a2 l0_31 l0_32 f1 f2 f4 f6 f7 f9 f10 f11 f0 f3 f8
def bfX7_copy_77 (N : Nat) (a1 : Int32) (a2 : Int32) (l0_31 : Int64) (l0_32 : Int64) (f1 : Nat → Int32) (f2 : Nat → Int32) (f4 : Nat → Int32) (f6 : Nat → Int32) (f7 : Nat → Int32) (f9 : Nat → Int32) (f10 : Nat → Int32) (f11 : Nat → Int32) : Nat → Int32 → Int32 → (Nat → Int32) → (Nat → Int32) → (Nat → Int32) → Option ((Nat → Int32) × (Nat → Int32) × (Nat → Int32))
  | 0 => fun _ _ _ _ _ => none
  | n + 1 => bFX7_copy_77 N a1 a2 l0_31 l0_32 f1 f2 f4 f6 f7 f9 f10 f11  (bfX7_copy_77 N a1 a2 l0_31 l0_32 f1 f2 f4 f6 f7 f9 f10 f11  n)
def bfX7_copy_17 (N : Nat) (a1 : Int32) (a2 : Int32) (l0_31 : Int64) (l0_32 : Int64) (f1 : Nat → Int32) (f2 : Nat → Int32) (f4 : Nat → Int32) (f6 : Nat → Int32) (f7 : Nat → Int32) (f9 : Nat → Int32) (f10 : Nat → Int32) (f11 : Nat → Int32) (s1 : Int32) (f0 : Nat → Int32) (f3 : Nat → Int32) (f8 : Nat → Int32) : Option ((Nat → Int32) × (Nat → Int32) × (Nat → Int32)) := lt_ (upd f0 27 s1) (fun f0_16 => bd2 (pX7_has (1 : Int32) f0_16 l0_31 l0_32 f4 f6) (fun r_17 f0_18 => if r_17 = 0 then some (f0_18, f3, f8) else gi_ (f0_18 14) 160 (lt_ (((f1 (f0_18 14).toNatClampNeg) + (1 : Int32))) (fun x_22 => gi_ (f0_18 2) 6 (if x_22 ≤ (f3 (f0_18 2).toNatClampNeg) then lt_ (upd f0_18 14 ((f0_18 14) + (1 : Int32))) (fun f0_25 => bfX7_copy_77 N a1 a2 l0_31 l0_32 f1 f2 f4 f6 f7 f9 f10 f11 N x_22 (0 : Int32) f0_25 f3 f8) else bd1 (pX7_fault (3 : Int32) (f0_18 14) f0_18 l0_31 l0_32) (fun f0_26 => some (f0_26, f3, f8)))))))
def pX7_copy (N : Nat) (a1 : Int32) (a2 : Int32) (f0 : Nat → Int32) (l0_31 : Int64) (l0_32 : Int64) (f1 : Nat → Int32) (f2 : Nat → Int32) (f3 : Nat → Int32) (f4 : Nat → Int32) (f6 : Nat → Int32) (f7 : Nat → Int32) (f8 : Nat → Int32) (f9 : Nat → Int32) (f10 : Nat → Int32) (f11 : Nat → Int32) : Option ((Nat → Int32) × (Nat → Int32) × (Nat → Int32)) := if (f0 27) = (-1 : Int32) then bfX7_copy_17 N a1 a2 l0_31 l0_32 f1 f2 f4 f6 f7 f9 f10 f11 a2 f0 f3 f8 else bfX7_copy_17 N a1 a2 l0_31 l0_32 f1 f2 f4 f6 f7 f9 f10 f11 (f0 27) f0 f3 f8
set_option maxHeartbeats 4000000 in
set_option maxRecDepth 100000 in
theorem bwX7_copy_129 {p : Program} {l : Launch} {e : Env} {s : State} {m : MethodId} {args : Array Value} {below : List Frame} {meth : Method} {c : Code} {D : va_G} {A : Nat → Prop} {cA : ClassId} {q0 q1 q2 q3 q4 q5 q6 q7 q8 q9 q10 q11 q12 q13 : Nat} {res : (Nat → Int32) × (Nat → Int32) × (Nat → Int32)} (C0 : cx p s m args meth c cX7_copy 6 RX7 wsX7_copy none D vwCl [(cA, .int)] A) (N : Nat) (a1 : Int32) (a2 : Int32) (l0_31 : Int64) (l0_32 : Int64) (f1 : Nat → Int32) (f2 : Nat → Int32) (f4 : Nat → Int32) (f6 : Nat → Int32) (f7 : Nat → Int32) (f9 : Nat → Int32) (f10 : Nat → Int32) (f11 : Nat → Int32) (f0 : Nat → Int32) (f3 : Nat → Int32) (f8 : Nat → Int32) (h : bfX7_copy_129 N a1 a2 l0_31 l0_32 f1 f2 f4 f6 f7 f9 f10 f11  f0 f3 f8 = some res) : At_ p l e (rmX7_copy) s m args below meth c D vwCl A 6 0 0 (Qv_ below args s D vwCl A (wdX7_7 cA q0 q1 q2 q3 q4 q5 q6 q7 q8 q9 q10 q11 q12 q13 res.1 l0_31 l0_32 f1 f2 res.2.1 f4 f6 f7 res.2.2 f9 f10 f11)) 129 [(0, .ref q0), (1, .int a1), (2, .int a2)] [] (wdX7_7 cA q0 q1 q2 q3 q4 q5 q6 q7 q8 q9 q10 q11 q12 q13 f0 l0_31 l0_32 f1 f2 f3 f4 f6 f7 f8 f9 f10 f11) := by
  unfold bfX7_copy_129 at h
  refine a_aload_n C0 dX7_copy_129 rfl 0 rfl ?_
  obtain ⟨f0_1, f3_2, f8_3, h_4, h⟩ := bd3_e h
  refine a_callVv C0 (wdX7_7 cA q0 q1 q2 q3 q4 q5 q6 q7 q8 q9 q10 q11 q12 q13 f0_1 l0_31 l0_32 f1 f2 f3_2 f4 f6 f7 f8_3 f9 f10 f11) (As := []) (rest := []) (ctX7_done l D cA q0 q1 q2 q3 q4 q5 q6 q7 q8 q9 q10 q11 q12 q13 N f0 l0_31 l0_32 f2 f3 f7 f8 f9 f10 f11 h_4) (cwV 0 C0.1.2.2.2.2 gX7_copy_X7_done rfl rfl rfl hdX7_done ⟨Nat.le_of_ble_eq_true rfl, Nat.le_of_ble_eq_true rfl⟩) [0, 2, 3, 6, 7, 8, 9, 10] [1, 4, 5] [3, 0, 4, 5, 1, 2, 6, 7, 8, 9, 10] rfl rfl rfl rfl (by decide) rfl rfl rfl rfl rfl rfl (Nat.le_of_ble_eq_true rfl) dX7_copy_130 ⟨Nat.zero_le _, Nat.zero_le _⟩ ?_
  obtain rfl := Option.some.inj h
  exact a_vret C0 dX7_copy_133 rfl
set_option maxHeartbeats 4000000 in
set_option maxRecDepth 100000 in
theorem bwX7_copy_77 {p : Program} {l : Launch} {e : Env} {s : State} {m : MethodId} {args : Array Value} {below : List Frame} {meth : Method} {c : Code} {D : va_G} {A : Nat → Prop} {cA : ClassId} {q0 q1 q2 q3 q4 q5 q6 q7 q8 q9 q10 q11 q12 q13 : Nat} {res : (Nat → Int32) × (Nat → Int32) × (Nat → Int32)} (C0 : cx p s m args meth c cX7_copy 6 RX7 wsX7_copy none D vwCl [(cA, .int)] A) (N : Nat) (a1 : Int32) (a2 : Int32) (l0_31 : Int64) (l0_32 : Int64) (f1 : Nat → Int32) (f2 : Nat → Int32) (f4 : Nat → Int32) (f6 : Nat → Int32) (f7 : Nat → Int32) (f9 : Nat → Int32) (f10 : Nat → Int32) (f11 : Nat → Int32) : ∀ (n : Nat) (v3 : Int32) (v4 : Int32) (f0 : Nat → Int32) (f3 : Nat → Int32) (f8 : Nat → Int32), bfX7_copy_77 N a1 a2 l0_31 l0_32 f1 f2 f4 f6 f7 f9 f10 f11  n v3 v4 f0 f3 f8 = some res → At_ p l e (rmX7_copy) s m args below meth c D vwCl A 6 0 0 (Qv_ below args s D vwCl A (wdX7_7 cA q0 q1 q2 q3 q4 q5 q6 q7 q8 q9 q10 q11 q12 q13 res.1 l0_31 l0_32 f1 f2 res.2.1 f4 f6 f7 res.2.2 f9 f10 f11)) 77 [(0, .ref q0), (1, .int a1), (2, .int a2), (3, .int v3), (4, .int v4)] [] (wdX7_7 cA q0 q1 q2 q3 q4 q5 q6 q7 q8 q9 q10 q11 q12 q13 f0 l0_31 l0_32 f1 f2 f3 f4 f6 f7 f8 f9 f10 f11) := by
  intro n
  induction n with
  | zero => intro v3 v4 f0 f3 f8 h; cases h
  | succ n hrc77 =>
    intro v3 v4 f0 f3 f8 h
    replace h : bFX7_copy_77 N a1 a2 l0_31 l0_32 f1 f2 f4 f6 f7 f9 f10 f11  (bfX7_copy_77 N a1 a2 l0_31 l0_32 f1 f2 f4 f6 f7 f9 f10 f11  n) v3 v4 f0 f3 f8 = some res := h
    generalize bfX7_copy_77 N a1 a2 l0_31 l0_32 f1 f2 f4 f6 f7 f9 f10 f11  n = rc77 at h hrc77
    unfold bFX7_copy_77 at h
    refine a_iload C0 dX7_copy_77 4 rfl ?_
    refine a_iload_n C0 dX7_copy_79 rfl 1 rfl ?_
    refine a_icmp_ge C0 129 dX7_copy_80 (by decide) (fun c_5 => ?_) (fun c_5 => ?_)
    · have h := it_ c_5 h
      refine a_lv [0, 1, 2] (lv' := [(0, .ref q0), (1, .int a1), (2, .int a2)]) rfl ?_
      exact bwX7_copy_129 C0 N a1 a2 l0_31 l0_32 f1 f2 f4 f6 f7 f9 f10 f11 f0 f3 f8 h
    · have h := ie_ c_5 h
      refine a_aload_n C0 dX7_copy_83 rfl 0 rfl ?_
      refine a_get C0 inX7_copy_X7 0 rfl rfl 16 (by decide) lkX7_copy_57 (fun _ h9 => h9) (.int (f0 16)) rfl dX7_copy_84 ?_
      refine a_if_ne C0 129 dX7_copy_87 (by decide) (fun c_6 => ?_) (fun c_6 => ?_)
      · have h := ie_ c_6 h
        refine a_lv [0, 1, 2] (lv' := [(0, .ref q0), (1, .int a1), (2, .int a2)]) rfl ?_
        exact bwX7_copy_129 C0 N a1 a2 l0_31 l0_32 f1 f2 f4 f6 f7 f9 f10 f11 f0 f3 f8 h
      · have h := it_ c_6 h
        refine a_aload_n C0 dX7_copy_90 rfl 0 rfl ?_
        refine a_aload_n C0 dX7_copy_91 rfl 0 rfl ?_
        refine a_get C0 inX7_copy_X7 0 rfl rfl 9 (by decide) lkX7_copy_31 (fun _ h9 => h9) (.ref q8) rfl dX7_copy_92 ?_
        refine a_aload_n C0 dX7_copy_95 rfl 0 rfl ?_
        refine a_get C0 inX7_copy_X7 0 rfl rfl 3 (by decide) lkX7_copy_13 (fun _ h9 => h9) (.ref q2) rfl dX7_copy_96 ?_
        refine a_aload_n C0 dX7_copy_99 rfl 0 rfl ?_
        refine a_get C0 inX7_copy_X7 0 rfl rfl 2 (by decide) lkX7_copy_66 (fun _ h9 => h9) (.int (f0 2)) rfl dX7_copy_100 ?_
        obtain ⟨g_7, h⟩ := gi_e h
        refine a_iald C0 2 0 rfl rfl g_7 dX7_copy_103 ?_
        refine a_aload_n C0 dX7_copy_104 rfl 0 rfl ?_
        refine a_get C0 inX7_copy_X7 0 rfl rfl 4 (by decide) lkX7_copy_16 (fun _ h9 => h9) (.ref q3) rfl dX7_copy_105 ?_
        refine a_aload_n C0 dX7_copy_108 rfl 0 rfl ?_
        refine a_get C0 inX7_copy_X7 0 rfl rfl 2 (by decide) lkX7_copy_66 (fun _ h9 => h9) (.int (f0 2)) rfl dX7_copy_109 ?_
        obtain ⟨g_8, h⟩ := gi_e h
        refine a_iald C0 3 0 rfl rfl g_8 dX7_copy_112 ?_
        refine a_iadd C0 dX7_copy_113 ?_
        refine a_iload_n C0 dX7_copy_114 rfl 3 rfl ?_
        refine a_isub C0 dX7_copy_115 ?_
        obtain ⟨g_9, h⟩ := gi_e h
        refine a_iald C0 7 0 rfl rfl g_9 dX7_copy_116 ?_
        refine a_iload_n C0 dX7_copy_117 rfl 2 rfl ?_
        obtain ⟨r_10, f0_11, f3_12, f8_13, h_14, h⟩ := bd4_e h
        refine a_callVi C0 (wdX7_7 cA q0 q1 q2 q3 q4 q5 q6 q7 q8 q9 q10 q11 q12 q13 f0_11 l0_31 l0_32 f1 f2 f3_12 f4 f6 f7 f8_13 f9 f10 f11) (As := [.int (f8 (((f2 (f0 2).toNatClampNeg) + (f3 (f0 2).toNatClampNeg)) - v3).toNatClampNeg), .int a2]) (rest := []) (ctX7_give l D cA q0 q1 q2 q3 q4 q5 q6 q7 q8 q9 q10 q11 q12 q13 (f8 (((f2 (f0 2).toNatClampNeg) + (f3 (f0 2).toNatClampNeg)) - v3).toNatClampNeg) a2 f0 l0_31 l0_32 f2 f3 f8 h_14) (cwV 2 C0.1.2.2.2.2 gX7_copy_X7_give rfl rfl rfl hdX7_give ⟨Nat.le_of_ble_eq_true rfl, Nat.le_of_ble_eq_true rfl⟩) [0, 2, 3, 7] [1, 4, 5, 6, 8, 9, 10] [7, 0, 8, 9, 1, 2, 3, 10, 4, 5, 6] rfl rfl rfl rfl (by decide) rfl rfl rfl rfl rfl rfl (Nat.le_of_ble_eq_true rfl) dX7_copy_118 ⟨Nat.zero_le _, Nat.zero_le _⟩ ?_
        refine a_istore C0 [(5, .int r_10), (0, .ref q0), (1, .int a1), (2, .int a2), (3, .int v3), (4, .int v4)] dX7_copy_121 (by decide) rfl ?_
        obtain ⟨x_15, ex_15, h⟩ := lt_e h
        refine a_iinc C0 x_15 [(4, .int x_15), (5, .int r_10), (0, .ref q0), (1, .int a1), (2, .int a2), (3, .int v3)] dX7_copy_123 5 rfl (by subst ex_15; rfl) (by decide) rfl ?_
        refine a_goto C0 77 dX7_copy_126 (by decide) ?_
        refine a_lv [2, 3, 4, 5, 0] (lv' := [(0, .ref q0), (1, .int a1), (2, .int a2), (3, .int v3), (4, .int x_15)]) rfl ?_
        exact hrc77 v3 x_15 f0_11 f3_12 f8_13 h
set_option maxHeartbeats 4000000 in
set_option maxRecDepth 100000 in
theorem bwX7_copy_17 {p : Program} {l : Launch} {e : Env} {s : State} {m : MethodId} {args : Array Value} {below : List Frame} {meth : Method} {c : Code} {D : va_G} {A : Nat → Prop} {cA : ClassId} {q0 q1 q2 q3 q4 q5 q6 q7 q8 q9 q10 q11 q12 q13 : Nat} {res : (Nat → Int32) × (Nat → Int32) × (Nat → Int32)} (C0 : cx p s m args meth c cX7_copy 6 RX7 wsX7_copy none D vwCl [(cA, .int)] A) (N : Nat) (a1 : Int32) (a2 : Int32) (l0_31 : Int64) (l0_32 : Int64) (f1 : Nat → Int32) (f2 : Nat → Int32) (f4 : Nat → Int32) (f6 : Nat → Int32) (f7 : Nat → Int32) (f9 : Nat → Int32) (f10 : Nat → Int32) (f11 : Nat → Int32) (s1 : Int32) (f0 : Nat → Int32) (f3 : Nat → Int32) (f8 : Nat → Int32) (h : bfX7_copy_17 N a1 a2 l0_31 l0_32 f1 f2 f4 f6 f7 f9 f10 f11  s1 f0 f3 f8 = some res) : At_ p l e (rmX7_copy) s m args below meth c D vwCl A 6 0 0 (Qv_ below args s D vwCl A (wdX7_7 cA q0 q1 q2 q3 q4 q5 q6 q7 q8 q9 q10 q11 q12 q13 res.1 l0_31 l0_32 f1 f2 res.2.1 f4 f6 f7 res.2.2 f9 f10 f11)) 17 [(0, .ref q0), (1, .int a1), (2, .int a2)] [.int s1, .ref q0] (wdX7_7 cA q0 q1 q2 q3 q4 q5 q6 q7 q8 q9 q10 q11 q12 q13 f0 l0_31 l0_32 f1 f2 f3 f4 f6 f7 f8 f9 f10 f11) := by
  unfold bfX7_copy_17 at h
  obtain ⟨f0_16, ef0_16, h⟩ := lt_e h
  refine a_put C0 inX7_copy_X7 tyX7 tyX7_ok nmX7 0 rfl rfl 27 (by decide) lkX7_copy_110 (fun _ h9 => h9) rfl (ty := .int) (v := .int s1) (by decide +kernel) rfl rfl (Nat.le_of_ble_eq_true rfl) dX7_copy_17 (wdX7_7 cA q0 q1 q2 q3 q4 q5 q6 q7 q8 q9 q10 q11 q12 q13 f0_16 l0_31 l0_32 f1 f2 f3 f4 f6 f7 f8 f9 f10 f11) (by subst ef0_16; rfl) ?_
  refine a_aload_n C0 dX7_copy_20 rfl 0 rfl ?_
  refine a_iconst C0 (1 : Int32) dX7_copy_21 (by decide) ?_
  obtain ⟨r_17, f0_18, h_19, h⟩ := bd2_e h
  refine a_callVi C0 (wdX7_7 cA q0 q1 q2 q3 q4 q5 q6 q7 q8 q9 q10 q11 q12 q13 f0_18 l0_31 l0_32 f1 f2 f3 f4 f6 f7 f8 f9 f10 f11) (As := [.int (1 : Int32)]) (rest := []) (ctX7_has l D cA q0 q1 q2 q3 q4 q5 q6 q7 q8 q9 q10 q11 q12 q13 (1 : Int32) f0_16 l0_31 l0_32 f4 f6 h_19) (cwV 1 C0.1.2.2.2.2 gX7_copy_X7_has rfl rfl rfl hdX7_has ⟨Nat.le_of_ble_eq_true rfl, Nat.le_of_ble_eq_true rfl⟩) [0, 4, 5] [1, 2, 3, 6, 7, 8, 9, 10] [8, 0, 1, 2, 9, 10, 3, 4, 5, 6, 7] rfl rfl rfl rfl (by decide) rfl rfl rfl rfl rfl rfl (Nat.le_of_ble_eq_true rfl) dX7_copy_22 ⟨Nat.zero_le _, Nat.zero_le _⟩ ?_
  refine a_if_ne C0 29 dX7_copy_25 (by decide) (fun c_20 => ?_) (fun c_20 => ?_)
  · have h := ie_ c_20 h
    refine a_aload_n C0 dX7_copy_29 rfl 0 rfl ?_
    refine a_get C0 inX7_copy_X7 0 rfl rfl 0 (by decide) lkX7_copy_7 (fun _ h9 => h9) (.ref q1) rfl dX7_copy_30 ?_
    refine a_aload_n C0 dX7_copy_33 rfl 0 rfl ?_
    refine a_get C0 inX7_copy_X7 0 rfl rfl 14 (by decide) lkX7_copy_63 (fun _ h9 => h9) (.int (f0_18 14)) rfl dX7_copy_34 ?_
    obtain ⟨g_21, h⟩ := gi_e h
    refine a_iald C0 1 0 rfl rfl g_21 dX7_copy_37 ?_
    refine a_iconst C0 (1 : Int32) dX7_copy_38 (by decide) ?_
    refine a_iadd C0 dX7_copy_39 ?_
    obtain ⟨x_22, ex_22, h⟩ := lt_e h
    refine a_topi ex_22 ?_
    refine a_istore_n C0 [(3, .int x_22), (0, .ref q0), (1, .int a1), (2, .int a2)] dX7_copy_40 rfl (by decide) rfl ?_
    refine a_iload_n C0 dX7_copy_41 rfl 0 rfl ?_
    refine a_aload_n C0 dX7_copy_42 rfl 1 rfl ?_
    refine a_get C0 inX7_copy_X7 0 rfl rfl 4 (by decide) lkX7_copy_16 (fun _ h9 => h9) (.ref q3) rfl dX7_copy_43 ?_
    refine a_aload_n C0 dX7_copy_46 rfl 1 rfl ?_
    refine a_get C0 inX7_copy_X7 0 rfl rfl 2 (by decide) lkX7_copy_66 (fun _ h9 => h9) (.int (f0_18 2)) rfl dX7_copy_47 ?_
    obtain ⟨g_23, h⟩ := gi_e h
    refine a_iald C0 3 0 rfl rfl g_23 dX7_copy_50 ?_
    refine a_icmp_le C0 64 dX7_copy_51 (by decide) (fun c_24 => ?_) (fun c_24 => ?_)
    · have h := it_ c_24 h
      refine a_aload_n C0 dX7_copy_64 rfl 1 rfl ?_
      refine a_dup C0 dX7_copy_65 rfl ?_
      refine a_get C0 inX7_copy_X7 0 rfl rfl 14 (by decide) lkX7_copy_63 (fun _ h9 => h9) (.int (f0_18 14)) rfl dX7_copy_66 ?_
      refine a_iconst C0 (1 : Int32) dX7_copy_69 (by decide) ?_
      refine a_iadd C0 dX7_copy_70 ?_
      obtain ⟨f0_25, ef0_25, h⟩ := lt_e h
      refine a_put C0 inX7_copy_X7 tyX7 tyX7_ok nmX7 0 rfl rfl 14 (by decide) lkX7_copy_63 (fun _ h9 => h9) rfl (ty := .int) (v := .int ((f0_18 14) + (1 : Int32))) (by decide +kernel) rfl rfl (Nat.le_of_ble_eq_true rfl) dX7_copy_71 (wdX7_7 cA q0 q1 q2 q3 q4 q5 q6 q7 q8 q9 q10 q11 q12 q13 f0_25 l0_31 l0_32 f1 f2 f3 f4 f6 f7 f8 f9 f10 f11) (by subst ef0_25; rfl) ?_
      refine a_iconst C0 (0 : Int32) dX7_copy_74 (by decide) ?_
      refine a_istore C0 [(4, .int (0 : Int32)), (3, .int x_22), (0, .ref q0), (1, .int a1), (2, .int a2)] dX7_copy_75 (by decide) rfl ?_
      refine a_lv [2, 3, 4, 1, 0] (lv' := [(0, .ref q0), (1, .int a1), (2, .int a2), (3, .int x_22), (4, .int (0 : Int32))]) rfl ?_
      exact bwX7_copy_77 C0 N a1 a2 l0_31 l0_32 f1 f2 f4 f6 f7 f9 f10 f11 N x_22 (0 : Int32) f0_25 f3 f8 h
    · have h := ie_ c_24 h
      refine a_aload_n C0 dX7_copy_54 rfl 1 rfl ?_
      refine a_iconst C0 (3 : Int32) dX7_copy_55 (by decide) ?_
      refine a_aload_n C0 dX7_copy_56 rfl 1 rfl ?_
      refine a_get C0 inX7_copy_X7 0 rfl rfl 14 (by decide) lkX7_copy_63 (fun _ h9 => h9) (.int (f0_18 14)) rfl dX7_copy_57 ?_
      obtain ⟨f0_26, h_27, h⟩ := bd1_e h
      refine a_callVv C0 (wdX7_7 cA q0 q1 q2 q3 q4 q5 q6 q7 q8 q9 q10 q11 q12 q13 f0_26 l0_31 l0_32 f1 f2 f3 f4 f6 f7 f8 f9 f10 f11) (As := [.int (3 : Int32), .int (f0_18 14)]) (rest := []) (ctX7_fault l D cA q0 q1 q2 q3 q4 q5 q6 q7 q8 q9 q10 q11 q12 q13 (3 : Int32) (f0_18 14) f0_18 l0_31 l0_32 h_27) (cwV 2 C0.1.2.2.2.2 gX7_copy_X7_fault rfl rfl rfl hdX7_fault ⟨Nat.le_of_ble_eq_true rfl, Nat.le_of_ble_eq_true rfl⟩) [0] [1, 2, 3, 4, 5, 6, 7, 8, 9, 10] [10, 0, 1, 2, 3, 4, 5, 6, 7, 8, 9] rfl rfl rfl rfl (by decide) rfl rfl rfl rfl rfl rfl (Nat.le_of_ble_eq_true rfl) dX7_copy_60 ⟨Nat.zero_le _, Nat.zero_le _⟩ ?_
      obtain rfl := Option.some.inj h
      exact a_vret C0 dX7_copy_63 rfl
  · have h := it_ c_20 h
    obtain rfl := Option.some.inj h
    exact a_vret C0 dX7_copy_28 rfl
set_option maxHeartbeats 4000000 in
set_option maxRecDepth 100000 in
theorem bwX7_copy {p : Program} {l : Launch} {e : Env} {s : State} {m : MethodId} {args : Array Value} {below : List Frame} {meth : Method} {c : Code} {D : va_G} {A : Nat → Prop} {cA : ClassId} {q0 q1 q2 q3 q4 q5 q6 q7 q8 q9 q10 q11 q12 q13 : Nat} {res : (Nat → Int32) × (Nat → Int32) × (Nat → Int32)} (C0 : cx p s m args meth c cX7_copy 6 RX7 wsX7_copy none D vwCl [(cA, .int)] A) (N : Nat) (a1 : Int32) (a2 : Int32) (f0 : Nat → Int32) (l0_31 : Int64) (l0_32 : Int64) (f1 : Nat → Int32) (f2 : Nat → Int32) (f3 : Nat → Int32) (f4 : Nat → Int32) (f6 : Nat → Int32) (f7 : Nat → Int32) (f8 : Nat → Int32) (f9 : Nat → Int32) (f10 : Nat → Int32) (f11 : Nat → Int32) (h : pX7_copy N a1 a2 f0 l0_31 l0_32 f1 f2 f3 f4 f6 f7 f8 f9 f10 f11 = some res) : At_ p l e (rmX7_copy) s m args below meth c D vwCl A 6 0 0 (Qv_ below args s D vwCl A (wdX7_7 cA q0 q1 q2 q3 q4 q5 q6 q7 q8 q9 q10 q11 q12 q13 res.1 l0_31 l0_32 f1 f2 res.2.1 f4 f6 f7 res.2.2 f9 f10 f11)) 0 [(0, .ref q0), (1, .int a1), (2, .int a2)] [] (wdX7_7 cA q0 q1 q2 q3 q4 q5 q6 q7 q8 q9 q10 q11 q12 q13 f0 l0_31 l0_32 f1 f2 f3 f4 f6 f7 f8 f9 f10 f11) := by
  unfold pX7_copy at h
  refine a_aload_n C0 dX7_copy_0 rfl 0 rfl ?_
  refine a_aload_n C0 dX7_copy_1 rfl 0 rfl ?_
  refine a_get C0 inX7_copy_X7 0 rfl rfl 27 (by decide) lkX7_copy_110 (fun _ h9 => h9) (.int (f0 27)) rfl dX7_copy_2 ?_
  refine a_iconst C0 (-1 : Int32) dX7_copy_5 (by decide) ?_
  refine a_icmp_ne C0 13 dX7_copy_6 (by decide) (fun c_28 => ?_) (fun c_28 => ?_)
  · have h := ie_ c_28 h
    refine a_aload_n C0 dX7_copy_13 rfl 0 rfl ?_
    refine a_get C0 inX7_copy_X7 0 rfl rfl 27 (by decide) lkX7_copy_110 (fun _ h9 => h9) (.int (f0 27)) rfl dX7_copy_14 ?_
    exact bwX7_copy_17 C0 N a1 a2 l0_31 l0_32 f1 f2 f4 f6 f7 f9 f10 f11 (f0 27) f0 f3 f8 h
  · have h := it_ c_28 h
    refine a_iload_n C0 dX7_copy_9 rfl 2 rfl ?_
    refine a_goto C0 17 dX7_copy_10 (by decide) ?_
    exact bwX7_copy_17 C0 N a1 a2 l0_31 l0_32 f1 f2 f4 f6 f7 f9 f10 f11 a2 f0 f3 f8 h
set_option maxRecDepth 100000 in
theorem ctX7_copy (l : Launch) (D : va_G) (cA : ClassId) (q0 q1 q2 q3 q4 q5 q6 q7 q8 q9 q10 q11 q12 q13 : Nat) (N : Nat) (a1 : Int32) (a2 : Int32) (f0 : Nat → Int32) (l0_31 : Int64) (l0_32 : Int64) (f1 : Nat → Int32) (f2 : Nat → Int32) (f3 : Nat → Int32) (f4 : Nat → Int32) (f6 : Nat → Int32) (f7 : Nat → Int32) (f8 : Nat → Int32) (f9 : Nat → Int32) (f10 : Nat → Int32) (f11 : Nat → Int32) {res : (Nat → Int32) × (Nat → Int32) × (Nat → Int32)} (h : pX7_copy N a1 a2 f0 l0_31 l0_32 f1 f2 f3 f4 f6 f7 f8 f9 f10 f11 = some res) : Ctv l yX7_copy wsX7_copy (rmX7_copy) D vwCl [(cA, .int)] [.ref q0, .int a1, .int a2] (wdX7_7 cA q0 q1 q2 q3 q4 q5 q6 q7 q8 q9 q10 q11 q12 q13 f0 l0_31 l0_32 f1 f2 f3 f4 f6 f7 f8 f9 f10 f11) (wdX7_7 cA q0 q1 q2 q3 q4 q5 q6 q7 q8 q9 q10 q11 q12 q13 res.1 l0_31 l0_32 f1 f2 res.2.1 f4 f6 f7 res.2.2 f9 f10 f11) 0 0 :=
  ct_n (S := Unit) (maxL := 6) (cc := cX7_copy) (by decide) rfl (Nat.le_of_ble_eq_true rfl) (fun p e s m below meth c _ C0 => bwX7_copy C0 N a1 a2 f0 l0_31 l0_32 f1 f2 f3 f4 f6 f7 f8 f9 f10 f11 h)
/-! PackDrawerModel.isBound -/
abbrev rmX7_isBound : Room := { frames := 1, cells := 0, slots := 0, locals := 22 }
def pX7_isBound (a0 : Int32) (a1 : Int32) (a2 : Int32) : Option (Int32) := bd1 (pX7_in a0 (0 : Int32) (400 : Int32)) (fun r_1 => if r_1 = 0 then some (0 : Int32) else bd1 (pX7_in a1 (0 : Int32) (800 : Int32)) (fun r_4 => if r_4 = 0 then some (0 : Int32) else bd1 (pX7_in a2 (0 : Int32) (1500 : Int32)) (fun r_7 => if r_7 = 0 then some (0 : Int32) else some (1 : Int32))))
set_option maxHeartbeats 4000000 in
set_option maxRecDepth 100000 in
theorem bwX7_isBound {p : Program} {l : Launch} {e : Env} {s : State} {m : MethodId} {args : Array Value} {below : List Frame} {meth : Method} {c : Code} {D : va_G} {A : Nat → Prop} {cA : ClassId} {res : Int32} (C0 : cx p s m args meth c cX7_isBound 3 RX7 wsX7_isBound (some .boolean) D vwCl [(cA, .int)] A) (a0 : Int32) (a1 : Int32) (a2 : Int32) (h : pX7_isBound a0 a1 a2 = some res) : At_ p l e (rmX7_isBound) s m args below meth c D vwCl A 3 0 0 (Qi_ below args s D vwCl A (wdX7_0 cA) res) 0 [(0, .int a0), (1, .int a1), (2, .int a2)] [] (wdX7_0 cA) := by
  unfold pX7_isBound at h
  refine a_iload_n C0 dX7_isBound_0 rfl 0 rfl ?_
  refine a_iconst C0 (0 : Int32) dX7_isBound_1 (by decide) ?_
  refine a_sipush C0 (400 : Int32) dX7_isBound_2 (by decide) ?_
  obtain ⟨r_1, h_2, h⟩ := bd1_e h
  refine a_callSi C0 (wdX7_0 cA) (As := [.int a0, .int (0 : Int32), .int (400 : Int32)]) (rest := []) (ctX7_in l D cA a0 (0 : Int32) (400 : Int32) h_2) (cwS 3 C0.1.2.2.2.2 gX7_isBound_X7_in rfl rfl rfl hdX7_in ⟨Nat.le_of_ble_eq_true rfl, Nat.le_of_ble_eq_true rfl⟩) [] [] [] rfl rfl rfl rfl (by decide) rfl rfl rfl rfl (Nat.le_of_ble_eq_true rfl) dX7_isBound_5 ⟨Nat.zero_le _, Nat.zero_le _⟩ ?_
  refine a_if_eq C0 37 dX7_isBound_8 (by decide) (fun c_3 => ?_) (fun c_3 => ?_)
  · have h := it_ c_3 h
    refine a_iconst C0 (0 : Int32) dX7_isBound_37 (by decide) ?_
    obtain rfl := Option.some.inj h
    exact a_zret C0 dX7_isBound_38 rfl rfl rfl
  · have h := ie_ c_3 h
    refine a_iload_n C0 dX7_isBound_11 rfl 1 rfl ?_
    refine a_iconst C0 (0 : Int32) dX7_isBound_12 (by decide) ?_
    refine a_sipush C0 (800 : Int32) dX7_isBound_13 (by decide) ?_
    obtain ⟨r_4, h_5, h⟩ := bd1_e h
    refine a_callSi C0 (wdX7_0 cA) (As := [.int a1, .int (0 : Int32), .int (800 : Int32)]) (rest := []) (ctX7_in l D cA a1 (0 : Int32) (800 : Int32) h_5) (cwS 3 C0.1.2.2.2.2 gX7_isBound_X7_in rfl rfl rfl hdX7_in ⟨Nat.le_of_ble_eq_true rfl, Nat.le_of_ble_eq_true rfl⟩) [] [] [] rfl rfl rfl rfl (by decide) rfl rfl rfl rfl (Nat.le_of_ble_eq_true rfl) dX7_isBound_16 ⟨Nat.zero_le _, Nat.zero_le _⟩ ?_
    refine a_if_eq C0 37 dX7_isBound_19 (by decide) (fun c_6 => ?_) (fun c_6 => ?_)
    · have h := it_ c_6 h
      refine a_iconst C0 (0 : Int32) dX7_isBound_37 (by decide) ?_
      obtain rfl := Option.some.inj h
      exact a_zret C0 dX7_isBound_38 rfl rfl rfl
    · have h := ie_ c_6 h
      refine a_iload_n C0 dX7_isBound_22 rfl 2 rfl ?_
      refine a_iconst C0 (0 : Int32) dX7_isBound_23 (by decide) ?_
      refine a_sipush C0 (1500 : Int32) dX7_isBound_24 (by decide) ?_
      obtain ⟨r_7, h_8, h⟩ := bd1_e h
      refine a_callSi C0 (wdX7_0 cA) (As := [.int a2, .int (0 : Int32), .int (1500 : Int32)]) (rest := []) (ctX7_in l D cA a2 (0 : Int32) (1500 : Int32) h_8) (cwS 3 C0.1.2.2.2.2 gX7_isBound_X7_in rfl rfl rfl hdX7_in ⟨Nat.le_of_ble_eq_true rfl, Nat.le_of_ble_eq_true rfl⟩) [] [] [] rfl rfl rfl rfl (by decide) rfl rfl rfl rfl (Nat.le_of_ble_eq_true rfl) dX7_isBound_27 ⟨Nat.zero_le _, Nat.zero_le _⟩ ?_
      refine a_if_eq C0 37 dX7_isBound_30 (by decide) (fun c_9 => ?_) (fun c_9 => ?_)
      · have h := it_ c_9 h
        refine a_iconst C0 (0 : Int32) dX7_isBound_37 (by decide) ?_
        obtain rfl := Option.some.inj h
        exact a_zret C0 dX7_isBound_38 rfl rfl rfl
      · have h := ie_ c_9 h
        refine a_iconst C0 (1 : Int32) dX7_isBound_33 (by decide) ?_
        refine a_goto C0 38 dX7_isBound_34 (by decide) ?_
        obtain rfl := Option.some.inj h
        exact a_zret C0 dX7_isBound_38 rfl rfl rfl
set_option maxRecDepth 100000 in
theorem ctX7_isBound (l : Launch) (D : va_G) (cA : ClassId) (a0 : Int32) (a1 : Int32) (a2 : Int32) {res : Int32} (h : pX7_isBound a0 a1 a2 = some res) : Cti l yX7_isBound wsX7_isBound (rmX7_isBound) D vwCl [(cA, .int)] [.int a0, .int a1, .int a2] (wdX7_0 cA) (wdX7_0 cA) 0 0 res :=
  ct_i (maxL := 3) (cc := cX7_isBound) (by decide) rfl (Nat.le_of_ble_eq_true rfl) (fun p e s m below meth c C0 => bwX7_isBound C0 a0 a1 a2 h)
/-! PackDrawerModel.told -/
abbrev wdX7_9 (cA : ClassId) (q0 q1 q2 q3 q4 q5 q6 q7 q8 q9 q10 q11 q12 q13 : Nat) (f0 : Nat → Int32) (l0_31 : Int64) (l0_32 : Int64) (f12 : Nat → Int32) : va_W := [(q0, .inr (7, [.ref q1, .int (f0 1), .int (f0 2), .ref q2, .ref q3, .ref q4, .ref q5, .ref q6, .ref q7, .ref q8, .int (f0 10), .ref q9, .ref q10, .ref q11, .int (f0 14), .int (f0 15), .int (f0 16), .int (f0 17), .int (f0 18), .int (f0 19), .int (f0 20), .int (f0 21), .int (f0 22), .int (f0 23), .int (f0 24), .int (f0 25), .int (f0 26), .int (f0 27), .int (f0 28), .ref q12, .ref q13, .long l0_31, .long l0_32])), (q12, .inl (cA, 7, .inl f12))]
abbrev rmX7_told : Room := { frames := 1, cells := 0, slots := 0, locals := 22 }
theorem lkX7_told_43 : Cond.fieldLink RX7 43 RX7 (TX7 29).2.1 (TX7 29).2.2.1 ∈ wsX7_told := by decide +kernel
theorem inX7_told_X7 : ∀ w ∈ u_ws RX7 TX7 33, w ∈ wsX7_told := by decide +kernel
def pX7_told (a1 : Int32) (f0 : Nat → Int32) (l0_31 : Int64) (l0_32 : Int64) (f12 : Nat → Int32) : Option (Int32) := bd1 (pX7_in a1 (0 : Int32) (6 : Int32)) (fun r_1 => if r_1 = 0 then some (-2 : Int32) else gi_ a1 7 (some (f12 a1.toNatClampNeg)))
set_option maxHeartbeats 4000000 in
set_option maxRecDepth 100000 in
theorem bwX7_told {p : Program} {l : Launch} {e : Env} {s : State} {m : MethodId} {args : Array Value} {below : List Frame} {meth : Method} {c : Code} {D : va_G} {A : Nat → Prop} {cA : ClassId} {q0 q1 q2 q3 q4 q5 q6 q7 q8 q9 q10 q11 q12 q13 : Nat} {res : Int32} (C0 : cx p s m args meth c cX7_told 2 RX7 wsX7_told (some .int) D vwCl [(cA, .int)] A) (a1 : Int32) (f0 : Nat → Int32) (l0_31 : Int64) (l0_32 : Int64) (f12 : Nat → Int32) (h : pX7_told a1 f0 l0_31 l0_32 f12 = some res) : At_ p l e (rmX7_told) s m args below meth c D vwCl A 2 0 0 (Qi_ below args s D vwCl A (wdX7_9 cA q0 q1 q2 q3 q4 q5 q6 q7 q8 q9 q10 q11 q12 q13 f0 l0_31 l0_32 f12) res) 0 [(0, .ref q0), (1, .int a1)] [] (wdX7_9 cA q0 q1 q2 q3 q4 q5 q6 q7 q8 q9 q10 q11 q12 q13 f0 l0_31 l0_32 f12) := by
  unfold pX7_told at h
  refine a_iload_n C0 dX7_told_0 rfl 1 rfl ?_
  refine a_iconst C0 (0 : Int32) dX7_told_1 (by decide) ?_
  refine a_bipush C0 (6 : Int32) dX7_told_2 (by decide) ?_
  obtain ⟨r_1, h_2, h⟩ := bd1_e h
  refine a_callSi C0 (wdX7_9 cA q0 q1 q2 q3 q4 q5 q6 q7 q8 q9 q10 q11 q12 q13 f0 l0_31 l0_32 f12) (As := [.int a1, .int (0 : Int32), .int (6 : Int32)]) (rest := []) (ctX7_in l D cA a1 (0 : Int32) (6 : Int32) h_2) (cwS 3 C0.1.2.2.2.2 gX7_told_X7_in rfl rfl rfl hdX7_in ⟨Nat.le_of_ble_eq_true rfl, Nat.le_of_ble_eq_true rfl⟩) [] [0, 1] [0, 1] rfl rfl rfl rfl (by decide) rfl rfl rfl rfl (Nat.le_of_ble_eq_true rfl) dX7_told_4 ⟨Nat.zero_le _, Nat.zero_le _⟩ ?_
  refine a_if_eq C0 19 dX7_told_7 (by decide) (fun c_3 => ?_) (fun c_3 => ?_)
  · have h := it_ c_3 h
    refine a_bipush C0 (-2 : Int32) dX7_told_19 (by decide) ?_
    obtain rfl := Option.some.inj h
    exact a_iret C0 dX7_told_21 rfl rfl
  · have h := ie_ c_3 h
    refine a_aload_n C0 dX7_told_10 rfl 0 rfl ?_
    refine a_get C0 inX7_told_X7 0 rfl rfl 29 (by decide) lkX7_told_43 (fun _ h9 => h9) (.ref q12) rfl dX7_told_11 ?_
    refine a_iload_n C0 dX7_told_14 rfl 1 rfl ?_
    obtain ⟨g_4, h⟩ := gi_e h
    refine a_iald C0 1 0 rfl rfl g_4 dX7_told_15 ?_
    refine a_goto C0 21 dX7_told_16 (by decide) ?_
    obtain rfl := Option.some.inj h
    exact a_iret C0 dX7_told_21 rfl rfl
set_option maxRecDepth 100000 in
theorem ctX7_told (l : Launch) (D : va_G) (cA : ClassId) (q0 q1 q2 q3 q4 q5 q6 q7 q8 q9 q10 q11 q12 q13 : Nat) (a1 : Int32) (f0 : Nat → Int32) (l0_31 : Int64) (l0_32 : Int64) (f12 : Nat → Int32) {res : Int32} (h : pX7_told a1 f0 l0_31 l0_32 f12 = some res) : Cti l yX7_told wsX7_told (rmX7_told) D vwCl [(cA, .int)] [.ref q0, .int a1] (wdX7_9 cA q0 q1 q2 q3 q4 q5 q6 q7 q8 q9 q10 q11 q12 q13 f0 l0_31 l0_32 f12) (wdX7_9 cA q0 q1 q2 q3 q4 q5 q6 q7 q8 q9 q10 q11 q12 q13 f0 l0_31 l0_32 f12) 0 0 res :=
  ct_i (maxL := 2) (cc := cX7_told) (by decide) rfl (Nat.le_of_ble_eq_true rfl) (fun p e s m below meth c C0 => bwX7_told C0 a1 f0 l0_31 l0_32 f12 h)
/-! PackDrawerModel.given -/
abbrev wdX7_10 (cA : ClassId) (q0 q1 q2 q3 q4 q5 q6 q7 q8 q9 q10 q11 q12 q13 : Nat) (f0 : Nat → Int32) (l0_31 : Int64) (l0_32 : Int64) (f12 : Nat → Int32) (f13 : Nat → Int32) : va_W := [(q0, .inr (7, [.ref q1, .int (f0 1), .int (f0 2), .ref q2, .ref q3, .ref q4, .ref q5, .ref q6, .ref q7, .ref q8, .int (f0 10), .ref q9, .ref q10, .ref q11, .int (f0 14), .int (f0 15), .int (f0 16), .int (f0 17), .int (f0 18), .int (f0 19), .int (f0 20), .int (f0 21), .int (f0 22), .int (f0 23), .int (f0 24), .int (f0 25), .int (f0 26), .int (f0 27), .int (f0 28), .ref q12, .ref q13, .long l0_31, .long l0_32])), (q12, .inl (cA, 7, .inl f12)), (q13, .inl (cA, 400, .inl f13))]
abbrev rmX7_given : Room := { frames := 1, cells := 0, slots := 0, locals := 22 }
theorem lkX7_given_43 : Cond.fieldLink RX7 43 RX7 (TX7 29).2.1 (TX7 29).2.2.1 ∈ wsX7_given := by decide +kernel
theorem inX7_given_X7 : ∀ w ∈ u_ws RX7 TX7 33, w ∈ wsX7_given := by decide +kernel
theorem lkX7_given_46 : Cond.fieldLink RX7 46 RX7 (TX7 30).2.1 (TX7 30).2.2.1 ∈ wsX7_given := by decide +kernel
def pX7_given (a1 : Int32) (f0 : Nat → Int32) (l0_31 : Int64) (l0_32 : Int64) (f12 : Nat → Int32) (f13 : Nat → Int32) : Option (Int32) := gi_ (4 : Int32) 7 (bd1 (pX7_in a1 (0 : Int32) ((f12 (4 : Int32).toNatClampNeg) - (1 : Int32))) (fun r_2 => if r_2 = 0 then some (-1 : Int32) else gi_ a1 400 (some (f13 a1.toNatClampNeg))))
set_option maxHeartbeats 4000000 in
set_option maxRecDepth 100000 in
theorem bwX7_given {p : Program} {l : Launch} {e : Env} {s : State} {m : MethodId} {args : Array Value} {below : List Frame} {meth : Method} {c : Code} {D : va_G} {A : Nat → Prop} {cA : ClassId} {q0 q1 q2 q3 q4 q5 q6 q7 q8 q9 q10 q11 q12 q13 : Nat} {res : Int32} (C0 : cx p s m args meth c cX7_given 2 RX7 wsX7_given (some .int) D vwCl [(cA, .int)] A) (a1 : Int32) (f0 : Nat → Int32) (l0_31 : Int64) (l0_32 : Int64) (f12 : Nat → Int32) (f13 : Nat → Int32) (h : pX7_given a1 f0 l0_31 l0_32 f12 f13 = some res) : At_ p l e (rmX7_given) s m args below meth c D vwCl A 2 0 0 (Qi_ below args s D vwCl A (wdX7_10 cA q0 q1 q2 q3 q4 q5 q6 q7 q8 q9 q10 q11 q12 q13 f0 l0_31 l0_32 f12 f13) res) 0 [(0, .ref q0), (1, .int a1)] [] (wdX7_10 cA q0 q1 q2 q3 q4 q5 q6 q7 q8 q9 q10 q11 q12 q13 f0 l0_31 l0_32 f12 f13) := by
  unfold pX7_given at h
  refine a_iload_n C0 dX7_given_0 rfl 1 rfl ?_
  refine a_iconst C0 (0 : Int32) dX7_given_1 (by decide) ?_
  refine a_aload_n C0 dX7_given_2 rfl 0 rfl ?_
  refine a_get C0 inX7_given_X7 0 rfl rfl 29 (by decide) lkX7_given_43 (fun _ h9 => h9) (.ref q12) rfl dX7_given_3 ?_
  refine a_iconst C0 (4 : Int32) dX7_given_6 (by decide) ?_
  obtain ⟨g_1, h⟩ := gi_e h
  refine a_iald C0 1 0 rfl rfl g_1 dX7_given_7 ?_
  refine a_iconst C0 (1 : Int32) dX7_given_8 (by decide) ?_
  refine a_isub C0 dX7_given_9 ?_
  obtain ⟨r_2, h_3, h⟩ := bd1_e h
  refine a_callSi C0 (wdX7_10 cA q0 q1 q2 q3 q4 q5 q6 q7 q8 q9 q10 q11 q12 q13 f0 l0_31 l0_32 f12 f13) (As := [.int a1, .int (0 : Int32), .int ((f12 (4 : Int32).toNatClampNeg) - (1 : Int32))]) (rest := []) (ctX7_in l D cA a1 (0 : Int32) ((f12 (4 : Int32).toNatClampNeg) - (1 : Int32)) h_3) (cwS 3 C0.1.2.2.2.2 gX7_given_X7_in rfl rfl rfl hdX7_in ⟨Nat.le_of_ble_eq_true rfl, Nat.le_of_ble_eq_true rfl⟩) [] [0, 1, 2] [0, 1, 2] rfl rfl rfl rfl (by decide) rfl rfl rfl rfl (Nat.le_of_ble_eq_true rfl) dX7_given_10 ⟨Nat.zero_le _, Nat.zero_le _⟩ ?_
  refine a_if_eq C0 25 dX7_given_13 (by decide) (fun c_4 => ?_) (fun c_4 => ?_)
  · have h := it_ c_4 h
    refine a_iconst C0 (-1 : Int32) dX7_given_25 (by decide) ?_
    obtain rfl := Option.some.inj h
    exact a_iret C0 dX7_given_26 rfl rfl
  · have h := ie_ c_4 h
    refine a_aload_n C0 dX7_given_16 rfl 0 rfl ?_
    refine a_get C0 inX7_given_X7 0 rfl rfl 30 (by decide) lkX7_given_46 (fun _ h9 => h9) (.ref q13) rfl dX7_given_17 ?_
    refine a_iload_n C0 dX7_given_20 rfl 1 rfl ?_
    obtain ⟨g_5, h⟩ := gi_e h
    refine a_iald C0 2 0 rfl rfl g_5 dX7_given_21 ?_
    refine a_goto C0 26 dX7_given_22 (by decide) ?_
    obtain rfl := Option.some.inj h
    exact a_iret C0 dX7_given_26 rfl rfl
set_option maxRecDepth 100000 in
theorem ctX7_given (l : Launch) (D : va_G) (cA : ClassId) (q0 q1 q2 q3 q4 q5 q6 q7 q8 q9 q10 q11 q12 q13 : Nat) (a1 : Int32) (f0 : Nat → Int32) (l0_31 : Int64) (l0_32 : Int64) (f12 : Nat → Int32) (f13 : Nat → Int32) {res : Int32} (h : pX7_given a1 f0 l0_31 l0_32 f12 f13 = some res) : Cti l yX7_given wsX7_given (rmX7_given) D vwCl [(cA, .int)] [.ref q0, .int a1] (wdX7_10 cA q0 q1 q2 q3 q4 q5 q6 q7 q8 q9 q10 q11 q12 q13 f0 l0_31 l0_32 f12 f13) (wdX7_10 cA q0 q1 q2 q3 q4 q5 q6 q7 q8 q9 q10 q11 q12 q13 f0 l0_31 l0_32 f12 f13) 0 0 res :=
  ct_i (maxL := 2) (cc := cX7_given) (by decide) rfl (Nat.le_of_ble_eq_true rfl) (fun p e s m below meth c C0 => bwX7_given C0 a1 f0 l0_31 l0_32 f12 f13 h)
/-! PackDrawerModel.pick -/
abbrev rmX7_pick : Room := { frames := 0, cells := 0, slots := 0, locals := 0 }
theorem lkX7_pick_156 : Cond.fieldLink RX7 156 RX7 (TX7 32).2.1 (TX7 32).2.2.1 ∈ wsX7_pick := by decide +kernel
theorem inX7_pick_X7 : ∀ w ∈ u_ws RX7 TX7 33, w ∈ wsX7_pick := by decide +kernel
theorem lkX7_pick_160 : Cond.fieldLink RX7 160 RX7 (TX7 31).2.1 (TX7 31).2.2.1 ∈ wsX7_pick := by decide +kernel
theorem lkX7_pick_163 : Cond.constantLong RX7 163 (-7046029254386353131 : Int64) ∈ wsX7_pick := by decide +kernel
theorem lkX7_pick_165 : Cond.constantLong RX7 165 (-4658895280553007687 : Int64) ∈ wsX7_pick := by decide +kernel
theorem lkX7_pick_167 : Cond.constantLong RX7 167 (-7723592293110705685 : Int64) ∈ wsX7_pick := by decide +kernel
def pX7_pick (a1 : Int32) (f0 : Nat → Int32) (l0_31 : Int64) (l0_32 : Int64) : Option (Int32 × Int64) := lt_ ((l0_32 + (1 : Int64))) (fun y_1 => lt_ ((l0_31 + (y_1 * (-7046029254386353131 : Int64)))) (fun x_2 => lt_ (((x_2 ^^^ (x_2.toUInt64 >>> ((30 : Int32).toInt64.toUInt64 &&& Int64.toUInt64 63)).toInt64) * (-4658895280553007687 : Int64))) (fun x_3 => lt_ (((x_3 ^^^ (x_3.toUInt64 >>> ((27 : Int32).toInt64.toUInt64 &&& Int64.toUInt64 63)).toInt64) * (-7723592293110705685 : Int64))) (fun x_4 => lt_ ((x_4 ^^^ (x_4.toUInt64 >>> ((31 : Int32).toInt64.toUInt64 &&& Int64.toUInt64 63)).toInt64)) (fun x_5 => gz_ (decide (¬ a1.toInt64 = 0)) (some (((x_5.toUInt64 >>> ((33 : Int32).toInt64.toUInt64 &&& Int64.toUInt64 63)).toInt64 - (x_5.toUInt64 >>> ((33 : Int32).toInt64.toUInt64 &&& Int64.toUInt64 63)).toInt64 / a1.toInt64 * a1.toInt64).toInt32, y_1)))))))
set_option maxHeartbeats 4000000 in
set_option maxRecDepth 100000 in
theorem bwX7_pick {p : Program} {l : Launch} {e : Env} {s : State} {m : MethodId} {args : Array Value} {below : List Frame} {meth : Method} {c : Code} {D : va_G} {A : Nat → Prop} {cA : ClassId} {q0 q1 q2 q3 q4 q5 q6 q7 q8 q9 q10 q11 q12 q13 : Nat} {res : Int32 × Int64} (C0 : cx p s m args meth c cX7_pick 4 RX7 wsX7_pick (some .int) D vwCl [(cA, .int)] A) (a1 : Int32) (f0 : Nat → Int32) (l0_31 : Int64) (l0_32 : Int64) (h : pX7_pick a1 f0 l0_31 l0_32 = some res) : At_ p l e (rmX7_pick) s m args below meth c D vwCl A 4 0 0 (Qi_ below args s D vwCl A (wdX7_2 cA q0 q1 q2 q3 q4 q5 q6 q7 q8 q9 q10 q11 q12 q13 f0 l0_31 res.2) res.1) 0 [(0, .ref q0), (1, .int a1)] [] (wdX7_2 cA q0 q1 q2 q3 q4 q5 q6 q7 q8 q9 q10 q11 q12 q13 f0 l0_31 l0_32) := by
  unfold pX7_pick at h
  refine a_aload_n C0 dX7_pick_0 rfl 0 rfl ?_
  refine a_dup C0 dX7_pick_1 rfl ?_
  refine a_get C0 inX7_pick_X7 0 rfl rfl 32 (by decide) lkX7_pick_156 (fun _ h9 => h9) (.long l0_32) rfl dX7_pick_2 ?_
  refine a_lconst C0 (1 : Int64) dX7_pick_5 (by decide) ?_
  refine a_ladd C0 dX7_pick_6 ?_
  obtain ⟨y_1, ey_1, h⟩ := lt_e h
  refine a_topl ey_1 ?_
  refine a_put C0 inX7_pick_X7 tyX7 tyX7_ok nmX7 0 rfl rfl 32 (by decide) lkX7_pick_156 (fun _ h9 => h9) rfl (ty := .long) (v := .long y_1) (by decide +kernel) rfl rfl (Nat.le_of_ble_eq_true rfl) dX7_pick_7 (wdX7_2 cA q0 q1 q2 q3 q4 q5 q6 q7 q8 q9 q10 q11 q12 q13 f0 l0_31 y_1) rfl ?_
  refine a_aload_n C0 dX7_pick_10 rfl 0 rfl ?_
  refine a_get C0 inX7_pick_X7 0 rfl rfl 31 (by decide) lkX7_pick_160 (fun _ h9 => h9) (.long l0_31) rfl dX7_pick_11 ?_
  refine a_aload_n C0 dX7_pick_14 rfl 0 rfl ?_
  refine a_get C0 inX7_pick_X7 0 rfl rfl 32 (by decide) lkX7_pick_156 (fun _ h9 => h9) (.long y_1) rfl dX7_pick_15 ?_
  refine a_ldc2 C0 (-7046029254386353131 : Int64) lkX7_pick_163 dX7_pick_18 ?_
  refine a_lmul C0 dX7_pick_21 ?_
  refine a_ladd C0 dX7_pick_22 ?_
  obtain ⟨x_2, ex_2, h⟩ := lt_e h
  refine a_topl ex_2 ?_
  refine a_lstore_n C0 [(2, .long x_2), (0, .ref q0), (1, .int a1)] dX7_pick_23 rfl (by decide) rfl ?_
  refine a_lload_n C0 dX7_pick_24 rfl 0 rfl ?_
  refine a_lload_n C0 dX7_pick_25 rfl 0 rfl ?_
  refine a_bipush C0 (30 : Int32) dX7_pick_26 (by decide) ?_
  refine a_lushr C0 dX7_pick_28 ?_
  refine a_lxor C0 dX7_pick_29 ?_
  refine a_ldc2 C0 (-4658895280553007687 : Int64) lkX7_pick_165 dX7_pick_30 ?_
  refine a_lmul C0 dX7_pick_33 ?_
  obtain ⟨x_3, ex_3, h⟩ := lt_e h
  refine a_topl ex_3 ?_
  refine a_lstore_n C0 [(2, .long x_3), (0, .ref q0), (1, .int a1)] dX7_pick_34 rfl (by decide) rfl ?_
  refine a_lload_n C0 dX7_pick_35 rfl 0 rfl ?_
  refine a_lload_n C0 dX7_pick_36 rfl 0 rfl ?_
  refine a_bipush C0 (27 : Int32) dX7_pick_37 (by decide) ?_
  refine a_lushr C0 dX7_pick_39 ?_
  refine a_lxor C0 dX7_pick_40 ?_
  refine a_ldc2 C0 (-7723592293110705685 : Int64) lkX7_pick_167 dX7_pick_41 ?_
  refine a_lmul C0 dX7_pick_44 ?_
  obtain ⟨x_4, ex_4, h⟩ := lt_e h
  refine a_topl ex_4 ?_
  refine a_lstore_n C0 [(2, .long x_4), (0, .ref q0), (1, .int a1)] dX7_pick_45 rfl (by decide) rfl ?_
  refine a_lload_n C0 dX7_pick_46 rfl 0 rfl ?_
  refine a_lload_n C0 dX7_pick_47 rfl 0 rfl ?_
  refine a_bipush C0 (31 : Int32) dX7_pick_48 (by decide) ?_
  refine a_lushr C0 dX7_pick_50 ?_
  refine a_lxor C0 dX7_pick_51 ?_
  obtain ⟨x_5, ex_5, h⟩ := lt_e h
  refine a_topl ex_5 ?_
  refine a_lstore_n C0 [(2, .long x_5), (0, .ref q0), (1, .int a1)] dX7_pick_52 rfl (by decide) rfl ?_
  refine a_lload_n C0 dX7_pick_53 rfl 0 rfl ?_
  refine a_bipush C0 (33 : Int32) dX7_pick_54 (by decide) ?_
  refine a_lushr C0 dX7_pick_56 ?_
  refine a_iload_n C0 dX7_pick_57 rfl 2 rfl ?_
  refine a_i2l C0 dX7_pick_58 ?_
  obtain ⟨g_6, h⟩ := gz_e h
  refine a_lrem C0 dX7_pick_59 (of_decide_eq_true g_6) ?_
  refine a_l2i C0 dX7_pick_60 ?_
  obtain rfl := Option.some.inj h
  exact a_iret C0 dX7_pick_61 rfl rfl
set_option maxRecDepth 100000 in
theorem ctX7_pick (l : Launch) (D : va_G) (cA : ClassId) (q0 q1 q2 q3 q4 q5 q6 q7 q8 q9 q10 q11 q12 q13 : Nat) (a1 : Int32) (f0 : Nat → Int32) (l0_31 : Int64) (l0_32 : Int64) {res : Int32 × Int64} (h : pX7_pick a1 f0 l0_31 l0_32 = some res) : Cti l yX7_pick wsX7_pick (rmX7_pick) D vwCl [(cA, .int)] [.ref q0, .int a1] (wdX7_2 cA q0 q1 q2 q3 q4 q5 q6 q7 q8 q9 q10 q11 q12 q13 f0 l0_31 l0_32) (wdX7_2 cA q0 q1 q2 q3 q4 q5 q6 q7 q8 q9 q10 q11 q12 q13 f0 l0_31 res.2) 0 0 res.1 :=
  ct_i (maxL := 4) (cc := cX7_pick) (by decide) rfl (Nat.le_of_ble_eq_true rfl) (fun p e s m below meth c C0 => bwX7_pick C0 a1 f0 l0_31 l0_32 h)
/-! PackDrawerModel.lay -/
abbrev rmX7_lay : Room := { frames := 0, cells := 0, slots := 0, locals := 0 }
theorem lkX7_lay_7 : Cond.fieldLink RX7 7 RX7 (TX7 0).2.1 (TX7 0).2.2.1 ∈ wsX7_lay := by decide +kernel
theorem inX7_lay_X7 : ∀ w ∈ u_ws RX7 TX7 33, w ∈ wsX7_lay := by decide +kernel
theorem lkX7_lay_53 : Cond.fieldLink RX7 53 RX7 (TX7 1).2.1 (TX7 1).2.2.1 ∈ wsX7_lay := by decide +kernel
def pX7_lay (a1 : Int32) (f0 : Nat → Int32) (l0_31 : Int64) (l0_32 : Int64) (f1 : Nat → Int32) : Option ((Nat → Int32) × (Nat → Int32)) := gi_ (f0 1) 160 (lt_ (upd f1 (f0 1).toNatClampNeg a1) (fun f1_2 => lt_ (upd f0 1 ((f0 1) + (1 : Int32))) (fun f0_3 => some (f0_3, f1_2))))
set_option maxHeartbeats 4000000 in
set_option maxRecDepth 100000 in
theorem bwX7_lay {p : Program} {l : Launch} {e : Env} {s : State} {m : MethodId} {args : Array Value} {below : List Frame} {meth : Method} {c : Code} {D : va_G} {A : Nat → Prop} {cA : ClassId} {q0 q1 q2 q3 q4 q5 q6 q7 q8 q9 q10 q11 q12 q13 : Nat} {res : (Nat → Int32) × (Nat → Int32)} (C0 : cx p s m args meth c cX7_lay 2 RX7 wsX7_lay none D vwCl [(cA, .int)] A) (a1 : Int32) (f0 : Nat → Int32) (l0_31 : Int64) (l0_32 : Int64) (f1 : Nat → Int32) (h : pX7_lay a1 f0 l0_31 l0_32 f1 = some res) : At_ p l e (rmX7_lay) s m args below meth c D vwCl A 2 0 0 (Qv_ below args s D vwCl A (wdX7_1 cA q0 q1 q2 q3 q4 q5 q6 q7 q8 q9 q10 q11 q12 q13 res.1 l0_31 l0_32 res.2)) 0 [(0, .ref q0), (1, .int a1)] [] (wdX7_1 cA q0 q1 q2 q3 q4 q5 q6 q7 q8 q9 q10 q11 q12 q13 f0 l0_31 l0_32 f1) := by
  unfold pX7_lay at h
  refine a_aload_n C0 dX7_lay_0 rfl 0 rfl ?_
  refine a_get C0 inX7_lay_X7 0 rfl rfl 0 (by decide) lkX7_lay_7 (fun _ h9 => h9) (.ref q1) rfl dX7_lay_1 ?_
  refine a_aload_n C0 dX7_lay_4 rfl 0 rfl ?_
  refine a_get C0 inX7_lay_X7 0 rfl rfl 1 (by decide) lkX7_lay_53 (fun _ h9 => h9) (.int (f0 1)) rfl dX7_lay_5 ?_
  refine a_iload_n C0 dX7_lay_8 rfl 1 rfl ?_
  obtain ⟨g_1, h⟩ := gi_e h
  obtain ⟨f1_2, ef1_2, h⟩ := lt_e h
  refine a_iast C0 1 0 rfl rfl g_1 dX7_lay_9 (wdX7_1 cA q0 q1 q2 q3 q4 q5 q6 q7 q8 q9 q10 q11 q12 q13 f0 l0_31 l0_32 f1_2) (by subst ef1_2; rfl) ?_
  refine a_aload_n C0 dX7_lay_10 rfl 0 rfl ?_
  refine a_dup C0 dX7_lay_11 rfl ?_
  refine a_get C0 inX7_lay_X7 0 rfl rfl 1 (by decide) lkX7_lay_53 (fun _ h9 => h9) (.int (f0 1)) rfl dX7_lay_12 ?_
  refine a_iconst C0 (1 : Int32) dX7_lay_15 (by decide) ?_
  refine a_iadd C0 dX7_lay_16 ?_
  obtain ⟨f0_3, ef0_3, h⟩ := lt_e h
  refine a_put C0 inX7_lay_X7 tyX7 tyX7_ok nmX7 0 rfl rfl 1 (by decide) lkX7_lay_53 (fun _ h9 => h9) rfl (ty := .int) (v := .int ((f0 1) + (1 : Int32))) (by decide +kernel) rfl rfl (Nat.le_of_ble_eq_true rfl) dX7_lay_17 (wdX7_1 cA q0 q1 q2 q3 q4 q5 q6 q7 q8 q9 q10 q11 q12 q13 f0_3 l0_31 l0_32 f1_2) (by subst ef0_3; rfl) ?_
  obtain rfl := Option.some.inj h
  exact a_vret C0 dX7_lay_20 rfl
set_option maxRecDepth 100000 in
theorem ctX7_lay (l : Launch) (D : va_G) (cA : ClassId) (q0 q1 q2 q3 q4 q5 q6 q7 q8 q9 q10 q11 q12 q13 : Nat) (a1 : Int32) (f0 : Nat → Int32) (l0_31 : Int64) (l0_32 : Int64) (f1 : Nat → Int32) {res : (Nat → Int32) × (Nat → Int32)} (h : pX7_lay a1 f0 l0_31 l0_32 f1 = some res) : Ctv l yX7_lay wsX7_lay (rmX7_lay) D vwCl [(cA, .int)] [.ref q0, .int a1] (wdX7_1 cA q0 q1 q2 q3 q4 q5 q6 q7 q8 q9 q10 q11 q12 q13 f0 l0_31 l0_32 f1) (wdX7_1 cA q0 q1 q2 q3 q4 q5 q6 q7 q8 q9 q10 q11 q12 q13 res.1 l0_31 l0_32 res.2) 0 0 :=
  ct_n (S := Unit) (maxL := 2) (cc := cX7_lay) (by decide) rfl (Nat.le_of_ble_eq_true rfl) (fun p e s m below meth c _ C0 => bwX7_lay C0 a1 f0 l0_31 l0_32 f1 h)
/-! PackDrawerModel.gives -/
abbrev rmX7_gives : Room := { frames := 0, cells := 0, slots := 0, locals := 0 }
theorem lkX7_gives_31 : Cond.fieldLink RX7 31 RX7 (TX7 9).2.1 (TX7 9).2.2.1 ∈ wsX7_gives := by decide +kernel
theorem inX7_gives_X7 : ∀ w ∈ u_ws RX7 TX7 33, w ∈ wsX7_gives := by decide +kernel
theorem lkX7_gives_13 : Cond.fieldLink RX7 13 RX7 (TX7 3).2.1 (TX7 3).2.2.1 ∈ wsX7_gives := by decide +kernel
theorem lkX7_gives_66 : Cond.fieldLink RX7 66 RX7 (TX7 2).2.1 (TX7 2).2.2.1 ∈ wsX7_gives := by decide +kernel
theorem lkX7_gives_16 : Cond.fieldLink RX7 16 RX7 (TX7 4).2.1 (TX7 4).2.2.1 ∈ wsX7_gives := by decide +kernel
def pX7_gives (a1 : Int32) (f0 : Nat → Int32) (l0_31 : Int64) (l0_32 : Int64) (f2 : Nat → Int32) (f3 : Nat → Int32) (f8 : Nat → Int32) : Option ((Nat → Int32) × (Nat → Int32)) := gi_ (f0 2) 6 (gi_ (f0 2) 6 (gi_ ((f2 (f0 2).toNatClampNeg) + (f3 (f0 2).toNatClampNeg)) 2000 (lt_ (upd f8 ((f2 (f0 2).toNatClampNeg) + (f3 (f0 2).toNatClampNeg)).toNatClampNeg a1) (fun f8_4 => gi_ (f0 2) 6 (gi_ (f0 2) 6 (lt_ (upd f3 (f0 2).toNatClampNeg ((f3 (f0 2).toNatClampNeg) + (1 : Int32))) (fun f3_7 => some (f3_7, f8_4))))))))
set_option maxHeartbeats 4000000 in
set_option maxRecDepth 100000 in
theorem bwX7_gives {p : Program} {l : Launch} {e : Env} {s : State} {m : MethodId} {args : Array Value} {below : List Frame} {meth : Method} {c : Code} {D : va_G} {A : Nat → Prop} {cA : ClassId} {q0 q1 q2 q3 q4 q5 q6 q7 q8 q9 q10 q11 q12 q13 : Nat} {res : (Nat → Int32) × (Nat → Int32)} (C0 : cx p s m args meth c cX7_gives 2 RX7 wsX7_gives none D vwCl [(cA, .int)] A) (a1 : Int32) (f0 : Nat → Int32) (l0_31 : Int64) (l0_32 : Int64) (f2 : Nat → Int32) (f3 : Nat → Int32) (f8 : Nat → Int32) (h : pX7_gives a1 f0 l0_31 l0_32 f2 f3 f8 = some res) : At_ p l e (rmX7_gives) s m args below meth c D vwCl A 2 0 0 (Qv_ below args s D vwCl A (wdX7_4 cA q0 q1 q2 q3 q4 q5 q6 q7 q8 q9 q10 q11 q12 q13 f0 l0_31 l0_32 f2 res.1 res.2)) 0 [(0, .ref q0), (1, .int a1)] [] (wdX7_4 cA q0 q1 q2 q3 q4 q5 q6 q7 q8 q9 q10 q11 q12 q13 f0 l0_31 l0_32 f2 f3 f8) := by
  unfold pX7_gives at h
  refine a_aload_n C0 dX7_gives_0 rfl 0 rfl ?_
  refine a_get C0 inX7_gives_X7 0 rfl rfl 9 (by decide) lkX7_gives_31 (fun _ h9 => h9) (.ref q8) rfl dX7_gives_1 ?_
  refine a_aload_n C0 dX7_gives_4 rfl 0 rfl ?_
  refine a_get C0 inX7_gives_X7 0 rfl rfl 3 (by decide) lkX7_gives_13 (fun _ h9 => h9) (.ref q2) rfl dX7_gives_5 ?_
  refine a_aload_n C0 dX7_gives_8 rfl 0 rfl ?_
  refine a_get C0 inX7_gives_X7 0 rfl rfl 2 (by decide) lkX7_gives_66 (fun _ h9 => h9) (.int (f0 2)) rfl dX7_gives_9 ?_
  obtain ⟨g_1, h⟩ := gi_e h
  refine a_iald C0 1 0 rfl rfl g_1 dX7_gives_12 ?_
  refine a_aload_n C0 dX7_gives_13 rfl 0 rfl ?_
  refine a_get C0 inX7_gives_X7 0 rfl rfl 4 (by decide) lkX7_gives_16 (fun _ h9 => h9) (.ref q3) rfl dX7_gives_14 ?_
  refine a_aload_n C0 dX7_gives_17 rfl 0 rfl ?_
  refine a_get C0 inX7_gives_X7 0 rfl rfl 2 (by decide) lkX7_gives_66 (fun _ h9 => h9) (.int (f0 2)) rfl dX7_gives_18 ?_
  obtain ⟨g_2, h⟩ := gi_e h
  refine a_iald C0 2 0 rfl rfl g_2 dX7_gives_21 ?_
  refine a_iadd C0 dX7_gives_22 ?_
  refine a_iload_n C0 dX7_gives_23 rfl 1 rfl ?_
  obtain ⟨g_3, h⟩ := gi_e h
  obtain ⟨f8_4, ef8_4, h⟩ := lt_e h
  refine a_iast C0 3 0 rfl rfl g_3 dX7_gives_24 (wdX7_4 cA q0 q1 q2 q3 q4 q5 q6 q7 q8 q9 q10 q11 q12 q13 f0 l0_31 l0_32 f2 f3 f8_4) (by subst ef8_4; rfl) ?_
  refine a_aload_n C0 dX7_gives_25 rfl 0 rfl ?_
  refine a_get C0 inX7_gives_X7 0 rfl rfl 4 (by decide) lkX7_gives_16 (fun _ h9 => h9) (.ref q3) rfl dX7_gives_26 ?_
  refine a_aload_n C0 dX7_gives_29 rfl 0 rfl ?_
  refine a_get C0 inX7_gives_X7 0 rfl rfl 2 (by decide) lkX7_gives_66 (fun _ h9 => h9) (.int (f0 2)) rfl dX7_gives_30 ?_
  refine a_dup2 C0 dX7_gives_33 rfl rfl ?_
  obtain ⟨g_5, h⟩ := gi_e h
  refine a_iald C0 2 0 rfl rfl g_5 dX7_gives_34 ?_
  refine a_iconst C0 (1 : Int32) dX7_gives_35 (by decide) ?_
  refine a_iadd C0 dX7_gives_36 ?_
  obtain ⟨g_6, h⟩ := gi_e h
  obtain ⟨f3_7, ef3_7, h⟩ := lt_e h
  refine a_iast C0 2 0 rfl rfl g_6 dX7_gives_37 (wdX7_4 cA q0 q1 q2 q3 q4 q5 q6 q7 q8 q9 q10 q11 q12 q13 f0 l0_31 l0_32 f2 f3_7 f8_4) (by subst ef3_7; rfl) ?_
  obtain rfl := Option.some.inj h
  exact a_vret C0 dX7_gives_38 rfl
set_option maxRecDepth 100000 in
theorem ctX7_gives (l : Launch) (D : va_G) (cA : ClassId) (q0 q1 q2 q3 q4 q5 q6 q7 q8 q9 q10 q11 q12 q13 : Nat) (a1 : Int32) (f0 : Nat → Int32) (l0_31 : Int64) (l0_32 : Int64) (f2 : Nat → Int32) (f3 : Nat → Int32) (f8 : Nat → Int32) {res : (Nat → Int32) × (Nat → Int32)} (h : pX7_gives a1 f0 l0_31 l0_32 f2 f3 f8 = some res) : Ctv l yX7_gives wsX7_gives (rmX7_gives) D vwCl [(cA, .int)] [.ref q0, .int a1] (wdX7_4 cA q0 q1 q2 q3 q4 q5 q6 q7 q8 q9 q10 q11 q12 q13 f0 l0_31 l0_32 f2 f3 f8) (wdX7_4 cA q0 q1 q2 q3 q4 q5 q6 q7 q8 q9 q10 q11 q12 q13 f0 l0_31 l0_32 f2 res.1 res.2) 0 0 :=
  ct_n (S := Unit) (maxL := 2) (cc := cX7_gives) (by decide) rfl (Nat.le_of_ble_eq_true rfl) (fun p e s m below meth c _ C0 => bwX7_gives C0 a1 f0 l0_31 l0_32 f2 f3 f8 h)
/-! PackDrawerModel.bomb -/
theorem hdX7_lay : yX7_lay.cls = RX7 ∧ yX7_lay.cls ≠ "java/lang/invoke/MethodHandle" ∧ yX7_lay.cls ≠ "java/lang/invoke/VarHandle" ∧ (parseMethodDescriptor yX7_lay.desc).map (fun d => d.parameters.length) = some 1 := by decide +kernel
abbrev rmX7_bomb : Room := { frames := 1, cells := 0, slots := 0, locals := 22 }
theorem lkX7_bomb_53 : Cond.fieldLink RX7 53 RX7 (TX7 1).2.1 (TX7 1).2.2.1 ∈ wsX7_bomb := by decide +kernel
theorem inX7_bomb_X7 : ∀ w ∈ u_ws RX7 TX7 33, w ∈ wsX7_bomb := by decide +kernel
def bFX7_bomb_94 (N : Nat) (a1 : Int32) (a2 : Int32) (a3 : Int32) (l0_31 : Int64) (l0_32 : Int64) (rc94 : Int32 → Int32 → (Nat → Int32) → (Nat → Int32) → Option (Int32 × (Nat → Int32) × (Nat → Int32))) (v4 : Int32) (v5 : Int32) (f0 : Nat → Int32) (f1 : Nat → Int32) : Option (Int32 × (Nat → Int32) × (Nat → Int32)) := if a1 < v5 then some ((f0 1), f0, f1) else bd2 (pX7_lay (0 : Int32) f0 l0_31 l0_32 f1) (fun f0_2 f1_3 => bd2 (pX7_lay (v4 &&& (255 : Int32)) f0_2 l0_31 l0_32 f1_3) (fun f0_5 f1_6 => lt_ (((v4 &&& (255 : Int32)) * a2)) (fun x_8 => lt_ ((v5 + (1 : Int32))) (fun x_9 => rc94 x_8 x_9 f0_5 f1_6))))
def bfX7_bomb_94 (N : Nat) (a1 : Int32) (a2 : Int32) (a3 : Int32) (l0_31 : Int64) (l0_32 : Int64) : Nat → Int32 → Int32 → (Nat → Int32) → (Nat → Int32) → Option (Int32 × (Nat → Int32) × (Nat → Int32))
  | 0 => fun _ _ _ _ => none
  | n + 1 => bFX7_bomb_94 N a1 a2 a3 l0_31 l0_32  (bfX7_bomb_94 N a1 a2 a3 l0_31 l0_32  n)
def bFX7_bomb_42 (N : Nat) (a1 : Int32) (a2 : Int32) (a3 : Int32) (l0_31 : Int64) (l0_32 : Int64) (rc42 : Int32 → (Nat → Int32) → (Nat → Int32) → Option (Int32 × (Nat → Int32) × (Nat → Int32))) (v4 : Int32) (f0 : Nat → Int32) (f1 : Nat → Int32) : Option (Int32 × (Nat → Int32) × (Nat → Int32)) := if v4 ≤ 0 then bd2 (pX7_lay (1 : Int32) f0 l0_31 l0_32 f1) (fun f0_11 f1_12 => bd2 (pX7_lay a3 f0_11 l0_31 l0_32 f1_12) (fun f0_14 f1_15 => bfX7_bomb_94 N a1 a2 a3 l0_31 l0_32 N a3 (0 : Int32) f0_14 f1_15)) else bd2 (pX7_lay ((126 : Int32) + a2) f0 l0_31 l0_32 f1) (fun f0_17 f1_18 => bd2 (pX7_lay (192 : Int32) f0_17 l0_31 l0_32 f1_18) (fun f0_20 f1_21 => bd2 (pX7_lay (((5 : Int32) * v4) - (1 : Int32)) f0_20 l0_31 l0_32 f1_21) (fun f0_23 f1_24 => lt_ ((v4 + (-1 : Int32))) (fun x_26 => rc42 x_26 f0_23 f1_24))))
def bfX7_bomb_42 (N : Nat) (a1 : Int32) (a2 : Int32) (a3 : Int32) (l0_31 : Int64) (l0_32 : Int64) : Nat → Int32 → (Nat → Int32) → (Nat → Int32) → Option (Int32 × (Nat → Int32) × (Nat → Int32))
  | 0 => fun _ _ _ => none
  | n + 1 => bFX7_bomb_42 N a1 a2 a3 l0_31 l0_32  (bfX7_bomb_42 N a1 a2 a3 l0_31 l0_32  n)
def pX7_bomb (N : Nat) (a1 : Int32) (a2 : Int32) (a3 : Int32) (f0 : Nat → Int32) (l0_31 : Int64) (l0_32 : Int64) (f1 : Nat → Int32) : Option (Int32 × (Nat → Int32) × (Nat → Int32)) := bd1 (pX7_in a1 (0 : Int32) (12 : Int32)) (fun r_27 => if r_27 = 0 then some ((-2 : Int32), f0, f1) else bd1 (pX7_in a2 (2 : Int32) (65 : Int32)) (fun r_30 => if r_30 = 0 then some ((-2 : Int32), f0, f1) else bd1 (pX7_in a3 (0 : Int32) (255 : Int32)) (fun r_33 => if r_33 = 0 then some ((-2 : Int32), f0, f1) else lt_ (upd f0 1 (0 : Int32)) (fun f0_36 => bfX7_bomb_42 N a1 a2 a3 l0_31 l0_32 N a1 f0_36 f1))))
set_option maxHeartbeats 4000000 in
set_option maxRecDepth 100000 in
theorem bwX7_bomb_94 {p : Program} {l : Launch} {e : Env} {s : State} {m : MethodId} {args : Array Value} {below : List Frame} {meth : Method} {c : Code} {D : va_G} {A : Nat → Prop} {cA : ClassId} {q0 q1 q2 q3 q4 q5 q6 q7 q8 q9 q10 q11 q12 q13 : Nat} {res : Int32 × (Nat → Int32) × (Nat → Int32)} (C0 : cx p s m args meth c cX7_bomb 6 RX7 wsX7_bomb (some .int) D vwCl [(cA, .int)] A) (N : Nat) (a1 : Int32) (a2 : Int32) (a3 : Int32) (l0_31 : Int64) (l0_32 : Int64) : ∀ (n : Nat) (v4 : Int32) (v5 : Int32) (f0 : Nat → Int32) (f1 : Nat → Int32), bfX7_bomb_94 N a1 a2 a3 l0_31 l0_32  n v4 v5 f0 f1 = some res → At_ p l e (rmX7_bomb) s m args below meth c D vwCl A 6 0 0 (Qi_ below args s D vwCl A (wdX7_1 cA q0 q1 q2 q3 q4 q5 q6 q7 q8 q9 q10 q11 q12 q13 res.2.1 l0_31 l0_32 res.2.2) res.1) 94 [(0, .ref q0), (1, .int a1), (2, .int a2), (3, .int a3), (4, .int v4), (5, .int v5)] [] (wdX7_1 cA q0 q1 q2 q3 q4 q5 q6 q7 q8 q9 q10 q11 q12 q13 f0 l0_31 l0_32 f1) := by
  intro n
  induction n with
  | zero => intro v4 v5 f0 f1 h; cases h
  | succ n hrc94 =>
    intro v4 v5 f0 f1 h
    replace h : bFX7_bomb_94 N a1 a2 a3 l0_31 l0_32  (bfX7_bomb_94 N a1 a2 a3 l0_31 l0_32  n) v4 v5 f0 f1 = some res := h
    generalize bfX7_bomb_94 N a1 a2 a3 l0_31 l0_32  n = rc94 at h hrc94
    unfold bFX7_bomb_94 at h
    refine a_iload C0 dX7_bomb_94 5 rfl ?_
    refine a_iload_n C0 dX7_bomb_96 rfl 1 rfl ?_
    refine a_icmp_gt C0 131 dX7_bomb_97 (by decide) (fun c_1 => ?_) (fun c_1 => ?_)
    · have h := it_ c_1 h
      refine a_aload_n C0 dX7_bomb_131 rfl 0 rfl ?_
      refine a_get C0 inX7_bomb_X7 0 rfl rfl 1 (by decide) lkX7_bomb_53 (fun _ h9 => h9) (.int (f0 1)) rfl dX7_bomb_132 ?_
      obtain rfl := Option.some.inj h
      exact a_iret C0 dX7_bomb_135 rfl rfl
    · have h := ie_ c_1 h
      refine a_aload_n C0 dX7_bomb_100 rfl 0 rfl ?_
      refine a_iconst C0 (0 : Int32) dX7_bomb_101 (by decide) ?_
      obtain ⟨f0_2, f1_3, h_4, h⟩ := bd2_e h
      refine a_callVv C0 (wdX7_1 cA q0 q1 q2 q3 q4 q5 q6 q7 q8 q9 q10 q11 q12 q13 f0_2 l0_31 l0_32 f1_3) (As := [.int (0 : Int32)]) (rest := []) (ctX7_lay l D cA q0 q1 q2 q3 q4 q5 q6 q7 q8 q9 q10 q11 q12 q13 (0 : Int32) f0 l0_31 l0_32 f1 h_4) (cwV 1 C0.1.2.2.2.2 gX7_bomb_X7_lay rfl rfl rfl hdX7_lay ⟨Nat.le_of_ble_eq_true rfl, Nat.le_of_ble_eq_true rfl⟩) [0, 1] [] [0, 1] rfl rfl rfl rfl (by decide) rfl rfl rfl rfl rfl rfl (Nat.le_of_ble_eq_true rfl) dX7_bomb_102 ⟨Nat.zero_le _, Nat.zero_le _⟩ ?_
      refine a_aload_n C0 dX7_bomb_105 rfl 0 rfl ?_
      refine a_iload C0 dX7_bomb_106 4 rfl ?_
      refine a_sipush C0 (255 : Int32) dX7_bomb_108 (by decide) ?_
      refine a_iand C0 dX7_bomb_111 ?_
      obtain ⟨f0_5, f1_6, h_7, h⟩ := bd2_e h
      refine a_callVv C0 (wdX7_1 cA q0 q1 q2 q3 q4 q5 q6 q7 q8 q9 q10 q11 q12 q13 f0_5 l0_31 l0_32 f1_6) (As := [.int (v4 &&& (255 : Int32))]) (rest := []) (ctX7_lay l D cA q0 q1 q2 q3 q4 q5 q6 q7 q8 q9 q10 q11 q12 q13 (v4 &&& (255 : Int32)) f0_2 l0_31 l0_32 f1_3 h_7) (cwV 1 C0.1.2.2.2.2 gX7_bomb_X7_lay rfl rfl rfl hdX7_lay ⟨Nat.le_of_ble_eq_true rfl, Nat.le_of_ble_eq_true rfl⟩) [0, 1] [] [0, 1] rfl rfl rfl rfl (by decide) rfl rfl rfl rfl rfl rfl (Nat.le_of_ble_eq_true rfl) dX7_bomb_112 ⟨Nat.zero_le _, Nat.zero_le _⟩ ?_
      refine a_iload C0 dX7_bomb_115 4 rfl ?_
      refine a_sipush C0 (255 : Int32) dX7_bomb_117 (by decide) ?_
      refine a_iand C0 dX7_bomb_120 ?_
      refine a_iload_n C0 dX7_bomb_121 rfl 2 rfl ?_
      refine a_imul C0 dX7_bomb_122 ?_
      obtain ⟨x_8, ex_8, h⟩ := lt_e h
      refine a_topi ex_8 ?_
      refine a_istore C0 [(4, .int x_8), (0, .ref q0), (1, .int a1), (2, .int a2), (3, .int a3), (5, .int v5)] dX7_bomb_123 (by decide) rfl ?_
      obtain ⟨x_9, ex_9, h⟩ := lt_e h
      refine a_iinc C0 x_9 [(5, .int x_9), (4, .int x_8), (0, .ref q0), (1, .int a1), (2, .int a2), (3, .int a3)] dX7_bomb_125 5 rfl (by subst ex_9; rfl) (by decide) rfl ?_
      refine a_goto C0 94 dX7_bomb_128 (by decide) ?_
      refine a_lv [2, 3, 4, 5, 1, 0] (lv' := [(0, .ref q0), (1, .int a1), (2, .int a2), (3, .int a3), (4, .int x_8), (5, .int x_9)]) rfl ?_
      exact hrc94 x_8 x_9 f0_5 f1_6 h
set_option maxHeartbeats 4000000 in
set_option maxRecDepth 100000 in
theorem bwX7_bomb_42 {p : Program} {l : Launch} {e : Env} {s : State} {m : MethodId} {args : Array Value} {below : List Frame} {meth : Method} {c : Code} {D : va_G} {A : Nat → Prop} {cA : ClassId} {q0 q1 q2 q3 q4 q5 q6 q7 q8 q9 q10 q11 q12 q13 : Nat} {res : Int32 × (Nat → Int32) × (Nat → Int32)} (C0 : cx p s m args meth c cX7_bomb 6 RX7 wsX7_bomb (some .int) D vwCl [(cA, .int)] A) (N : Nat) (a1 : Int32) (a2 : Int32) (a3 : Int32) (l0_31 : Int64) (l0_32 : Int64) : ∀ (n : Nat) (v4 : Int32) (f0 : Nat → Int32) (f1 : Nat → Int32), bfX7_bomb_42 N a1 a2 a3 l0_31 l0_32  n v4 f0 f1 = some res → At_ p l e (rmX7_bomb) s m args below meth c D vwCl A 6 0 0 (Qi_ below args s D vwCl A (wdX7_1 cA q0 q1 q2 q3 q4 q5 q6 q7 q8 q9 q10 q11 q12 q13 res.2.1 l0_31 l0_32 res.2.2) res.1) 42 [(0, .ref q0), (1, .int a1), (2, .int a2), (3, .int a3), (4, .int v4)] [] (wdX7_1 cA q0 q1 q2 q3 q4 q5 q6 q7 q8 q9 q10 q11 q12 q13 f0 l0_31 l0_32 f1) := by
  intro n
  induction n with
  | zero => intro v4 f0 f1 h; cases h
  | succ n hrc42 =>
    intro v4 f0 f1 h
    replace h : bFX7_bomb_42 N a1 a2 a3 l0_31 l0_32  (bfX7_bomb_42 N a1 a2 a3 l0_31 l0_32  n) v4 f0 f1 = some res := h
    generalize bfX7_bomb_42 N a1 a2 a3 l0_31 l0_32  n = rc42 at h hrc42
    unfold bFX7_bomb_42 at h
    refine a_iload C0 dX7_bomb_42 4 rfl ?_
    refine a_if_le C0 78 dX7_bomb_44 (by decide) (fun c_10 => ?_) (fun c_10 => ?_)
    · have h := it_ c_10 h
      refine a_aload_n C0 dX7_bomb_78 rfl 0 rfl ?_
      refine a_iconst C0 (1 : Int32) dX7_bomb_79 (by decide) ?_
      obtain ⟨f0_11, f1_12, h_13, h⟩ := bd2_e h
      refine a_callVv C0 (wdX7_1 cA q0 q1 q2 q3 q4 q5 q6 q7 q8 q9 q10 q11 q12 q13 f0_11 l0_31 l0_32 f1_12) (As := [.int (1 : Int32)]) (rest := []) (ctX7_lay l D cA q0 q1 q2 q3 q4 q5 q6 q7 q8 q9 q10 q11 q12 q13 (1 : Int32) f0 l0_31 l0_32 f1 h_13) (cwV 1 C0.1.2.2.2.2 gX7_bomb_X7_lay rfl rfl rfl hdX7_lay ⟨Nat.le_of_ble_eq_true rfl, Nat.le_of_ble_eq_true rfl⟩) [0, 1] [] [0, 1] rfl rfl rfl rfl (by decide) rfl rfl rfl rfl rfl rfl (Nat.le_of_ble_eq_true rfl) dX7_bomb_80 ⟨Nat.zero_le _, Nat.zero_le _⟩ ?_
      refine a_aload_n C0 dX7_bomb_83 rfl 0 rfl ?_
      refine a_iload_n C0 dX7_bomb_84 rfl 3 rfl ?_
      obtain ⟨f0_14, f1_15, h_16, h⟩ := bd2_e h
      refine a_callVv C0 (wdX7_1 cA q0 q1 q2 q3 q4 q5 q6 q7 q8 q9 q10 q11 q12 q13 f0_14 l0_31 l0_32 f1_15) (As := [.int a3]) (rest := []) (ctX7_lay l D cA q0 q1 q2 q3 q4 q5 q6 q7 q8 q9 q10 q11 q12 q13 a3 f0_11 l0_31 l0_32 f1_12 h_16) (cwV 1 C0.1.2.2.2.2 gX7_bomb_X7_lay rfl rfl rfl hdX7_lay ⟨Nat.le_of_ble_eq_true rfl, Nat.le_of_ble_eq_true rfl⟩) [0, 1] [] [0, 1] rfl rfl rfl rfl (by decide) rfl rfl rfl rfl rfl rfl (Nat.le_of_ble_eq_true rfl) dX7_bomb_85 ⟨Nat.zero_le _, Nat.zero_le _⟩ ?_
      refine a_iload_n C0 dX7_bomb_88 rfl 3 rfl ?_
      refine a_istore C0 [(4, .int a3), (0, .ref q0), (1, .int a1), (2, .int a2), (3, .int a3)] dX7_bomb_89 (by decide) rfl ?_
      refine a_iconst C0 (0 : Int32) dX7_bomb_91 (by decide) ?_
      refine a_istore C0 [(5, .int (0 : Int32)), (4, .int a3), (0, .ref q0), (1, .int a1), (2, .int a2), (3, .int a3)] dX7_bomb_92 (by decide) rfl ?_
      refine a_lv [2, 3, 4, 5, 1, 0] (lv' := [(0, .ref q0), (1, .int a1), (2, .int a2), (3, .int a3), (4, .int a3), (5, .int (0 : Int32))]) rfl ?_
      exact bwX7_bomb_94 C0 N a1 a2 a3 l0_31 l0_32 N a3 (0 : Int32) f0_14 f1_15 h
    · have h := ie_ c_10 h
      refine a_aload_n C0 dX7_bomb_47 rfl 0 rfl ?_
      refine a_bipush C0 (126 : Int32) dX7_bomb_48 (by decide) ?_
      refine a_iload_n C0 dX7_bomb_50 rfl 2 rfl ?_
      refine a_iadd C0 dX7_bomb_51 ?_
      obtain ⟨f0_17, f1_18, h_19, h⟩ := bd2_e h
      refine a_callVv C0 (wdX7_1 cA q0 q1 q2 q3 q4 q5 q6 q7 q8 q9 q10 q11 q12 q13 f0_17 l0_31 l0_32 f1_18) (As := [.int ((126 : Int32) + a2)]) (rest := []) (ctX7_lay l D cA q0 q1 q2 q3 q4 q5 q6 q7 q8 q9 q10 q11 q12 q13 ((126 : Int32) + a2) f0 l0_31 l0_32 f1 h_19) (cwV 1 C0.1.2.2.2.2 gX7_bomb_X7_lay rfl rfl rfl hdX7_lay ⟨Nat.le_of_ble_eq_true rfl, Nat.le_of_ble_eq_true rfl⟩) [0, 1] [] [0, 1] rfl rfl rfl rfl (by decide) rfl rfl rfl rfl rfl rfl (Nat.le_of_ble_eq_true rfl) dX7_bomb_52 ⟨Nat.zero_le _, Nat.zero_le _⟩ ?_
      refine a_aload_n C0 dX7_bomb_55 rfl 0 rfl ?_
      refine a_sipush C0 (192 : Int32) dX7_bomb_56 (by decide) ?_
      obtain ⟨f0_20, f1_21, h_22, h⟩ := bd2_e h
      refine a_callVv C0 (wdX7_1 cA q0 q1 q2 q3 q4 q5 q6 q7 q8 q9 q10 q11 q12 q13 f0_20 l0_31 l0_32 f1_21) (As := [.int (192 : Int32)]) (rest := []) (ctX7_lay l D cA q0 q1 q2 q3 q4 q5 q6 q7 q8 q9 q10 q11 q12 q13 (192 : Int32) f0_17 l0_31 l0_32 f1_18 h_22) (cwV 1 C0.1.2.2.2.2 gX7_bomb_X7_lay rfl rfl rfl hdX7_lay ⟨Nat.le_of_ble_eq_true rfl, Nat.le_of_ble_eq_true rfl⟩) [0, 1] [] [0, 1] rfl rfl rfl rfl (by decide) rfl rfl rfl rfl rfl rfl (Nat.le_of_ble_eq_true rfl) dX7_bomb_59 ⟨Nat.zero_le _, Nat.zero_le _⟩ ?_
      refine a_aload_n C0 dX7_bomb_62 rfl 0 rfl ?_
      refine a_iconst C0 (5 : Int32) dX7_bomb_63 (by decide) ?_
      refine a_iload C0 dX7_bomb_64 4 rfl ?_
      refine a_imul C0 dX7_bomb_66 ?_
      refine a_iconst C0 (1 : Int32) dX7_bomb_67 (by decide) ?_
      refine a_isub C0 dX7_bomb_68 ?_
      obtain ⟨f0_23, f1_24, h_25, h⟩ := bd2_e h
      refine a_callVv C0 (wdX7_1 cA q0 q1 q2 q3 q4 q5 q6 q7 q8 q9 q10 q11 q12 q13 f0_23 l0_31 l0_32 f1_24) (As := [.int (((5 : Int32) * v4) - (1 : Int32))]) (rest := []) (ctX7_lay l D cA q0 q1 q2 q3 q4 q5 q6 q7 q8 q9 q10 q11 q12 q13 (((5 : Int32) * v4) - (1 : Int32)) f0_20 l0_31 l0_32 f1_21 h_25) (cwV 1 C0.1.2.2.2.2 gX7_bomb_X7_lay rfl rfl rfl hdX7_lay ⟨Nat.le_of_ble_eq_true rfl, Nat.le_of_ble_eq_true rfl⟩) [0, 1] [] [0, 1] rfl rfl rfl rfl (by decide) rfl rfl rfl rfl rfl rfl (Nat.le_of_ble_eq_true rfl) dX7_bomb_69 ⟨Nat.zero_le _, Nat.zero_le _⟩ ?_
      obtain ⟨x_26, ex_26, h⟩ := lt_e h
      refine a_iinc C0 x_26 [(4, .int x_26), (0, .ref q0), (1, .int a1), (2, .int a2), (3, .int a3)] dX7_bomb_72 4 rfl (by subst ex_26; rfl) (by decide) rfl ?_
      refine a_goto C0 42 dX7_bomb_75 (by decide) ?_
      refine a_lv [1, 2, 3, 4, 0] (lv' := [(0, .ref q0), (1, .int a1), (2, .int a2), (3, .int a3), (4, .int x_26)]) rfl ?_
      exact hrc42 x_26 f0_23 f1_24 h
set_option maxHeartbeats 4000000 in
set_option maxRecDepth 100000 in
theorem bwX7_bomb {p : Program} {l : Launch} {e : Env} {s : State} {m : MethodId} {args : Array Value} {below : List Frame} {meth : Method} {c : Code} {D : va_G} {A : Nat → Prop} {cA : ClassId} {q0 q1 q2 q3 q4 q5 q6 q7 q8 q9 q10 q11 q12 q13 : Nat} {res : Int32 × (Nat → Int32) × (Nat → Int32)} (C0 : cx p s m args meth c cX7_bomb 6 RX7 wsX7_bomb (some .int) D vwCl [(cA, .int)] A) (N : Nat) (a1 : Int32) (a2 : Int32) (a3 : Int32) (f0 : Nat → Int32) (l0_31 : Int64) (l0_32 : Int64) (f1 : Nat → Int32) (h : pX7_bomb N a1 a2 a3 f0 l0_31 l0_32 f1 = some res) : At_ p l e (rmX7_bomb) s m args below meth c D vwCl A 6 0 0 (Qi_ below args s D vwCl A (wdX7_1 cA q0 q1 q2 q3 q4 q5 q6 q7 q8 q9 q10 q11 q12 q13 res.2.1 l0_31 l0_32 res.2.2) res.1) 0 [(0, .ref q0), (1, .int a1), (2, .int a2), (3, .int a3)] [] (wdX7_1 cA q0 q1 q2 q3 q4 q5 q6 q7 q8 q9 q10 q11 q12 q13 f0 l0_31 l0_32 f1) := by
  unfold pX7_bomb at h
  refine a_iload_n C0 dX7_bomb_0 rfl 1 rfl ?_
  refine a_iconst C0 (0 : Int32) dX7_bomb_1 (by decide) ?_
  refine a_bipush C0 (12 : Int32) dX7_bomb_2 (by decide) ?_
  obtain ⟨r_27, h_28, h⟩ := bd1_e h
  refine a_callSi C0 (wdX7_1 cA q0 q1 q2 q3 q4 q5 q6 q7 q8 q9 q10 q11 q12 q13 f0 l0_31 l0_32 f1) (As := [.int a1, .int (0 : Int32), .int (12 : Int32)]) (rest := []) (ctX7_in l D cA a1 (0 : Int32) (12 : Int32) h_28) (cwS 3 C0.1.2.2.2.2 gX7_bomb_X7_in rfl rfl rfl hdX7_in ⟨Nat.le_of_ble_eq_true rfl, Nat.le_of_ble_eq_true rfl⟩) [] [0, 1] [0, 1] rfl rfl rfl rfl (by decide) rfl rfl rfl rfl (Nat.le_of_ble_eq_true rfl) dX7_bomb_4 ⟨Nat.zero_le _, Nat.zero_le _⟩ ?_
  refine a_if_eq C0 31 dX7_bomb_7 (by decide) (fun c_29 => ?_) (fun c_29 => ?_)
  · have h := it_ c_29 h
    refine a_bipush C0 (-2 : Int32) dX7_bomb_31 (by decide) ?_
    obtain rfl := Option.some.inj h
    exact a_iret C0 dX7_bomb_33 rfl rfl
  · have h := ie_ c_29 h
    refine a_iload_n C0 dX7_bomb_10 rfl 2 rfl ?_
    refine a_iconst C0 (2 : Int32) dX7_bomb_11 (by decide) ?_
    refine a_bipush C0 (65 : Int32) dX7_bomb_12 (by decide) ?_
    obtain ⟨r_30, h_31, h⟩ := bd1_e h
    refine a_callSi C0 (wdX7_1 cA q0 q1 q2 q3 q4 q5 q6 q7 q8 q9 q10 q11 q12 q13 f0 l0_31 l0_32 f1) (As := [.int a2, .int (2 : Int32), .int (65 : Int32)]) (rest := []) (ctX7_in l D cA a2 (2 : Int32) (65 : Int32) h_31) (cwS 3 C0.1.2.2.2.2 gX7_bomb_X7_in rfl rfl rfl hdX7_in ⟨Nat.le_of_ble_eq_true rfl, Nat.le_of_ble_eq_true rfl⟩) [] [0, 1] [0, 1] rfl rfl rfl rfl (by decide) rfl rfl rfl rfl (Nat.le_of_ble_eq_true rfl) dX7_bomb_14 ⟨Nat.zero_le _, Nat.zero_le _⟩ ?_
    refine a_if_eq C0 31 dX7_bomb_17 (by decide) (fun c_32 => ?_) (fun c_32 => ?_)
    · have h := it_ c_32 h
      refine a_bipush C0 (-2 : Int32) dX7_bomb_31 (by decide) ?_
      obtain rfl := Option.some.inj h
      exact a_iret C0 dX7_bomb_33 rfl rfl
    · have h := ie_ c_32 h
      refine a_iload_n C0 dX7_bomb_20 rfl 3 rfl ?_
      refine a_iconst C0 (0 : Int32) dX7_bomb_21 (by decide) ?_
      refine a_sipush C0 (255 : Int32) dX7_bomb_22 (by decide) ?_
      obtain ⟨r_33, h_34, h⟩ := bd1_e h
      refine a_callSi C0 (wdX7_1 cA q0 q1 q2 q3 q4 q5 q6 q7 q8 q9 q10 q11 q12 q13 f0 l0_31 l0_32 f1) (As := [.int a3, .int (0 : Int32), .int (255 : Int32)]) (rest := []) (ctX7_in l D cA a3 (0 : Int32) (255 : Int32) h_34) (cwS 3 C0.1.2.2.2.2 gX7_bomb_X7_in rfl rfl rfl hdX7_in ⟨Nat.le_of_ble_eq_true rfl, Nat.le_of_ble_eq_true rfl⟩) [] [0, 1] [0, 1] rfl rfl rfl rfl (by decide) rfl rfl rfl rfl (Nat.le_of_ble_eq_true rfl) dX7_bomb_25 ⟨Nat.zero_le _, Nat.zero_le _⟩ ?_
      refine a_if_ne C0 34 dX7_bomb_28 (by decide) (fun c_35 => ?_) (fun c_35 => ?_)
      · have h := ie_ c_35 h
        refine a_aload_n C0 dX7_bomb_34 rfl 0 rfl ?_
        refine a_iconst C0 (0 : Int32) dX7_bomb_35 (by decide) ?_
        obtain ⟨f0_36, ef0_36, h⟩ := lt_e h
        refine a_put C0 inX7_bomb_X7 tyX7 tyX7_ok nmX7 0 rfl rfl 1 (by decide) lkX7_bomb_53 (fun _ h9 => h9) rfl (ty := .int) (v := .int (0 : Int32)) (by decide +kernel) rfl rfl (Nat.le_of_ble_eq_true rfl) dX7_bomb_36 (wdX7_1 cA q0 q1 q2 q3 q4 q5 q6 q7 q8 q9 q10 q11 q12 q13 f0_36 l0_31 l0_32 f1) (by subst ef0_36; rfl) ?_
        refine a_iload_n C0 dX7_bomb_39 rfl 1 rfl ?_
        refine a_istore C0 [(4, .int a1), (0, .ref q0), (1, .int a1), (2, .int a2), (3, .int a3)] dX7_bomb_40 (by decide) rfl ?_
        refine a_lv [1, 2, 3, 4, 0] (lv' := [(0, .ref q0), (1, .int a1), (2, .int a2), (3, .int a3), (4, .int a1)]) rfl ?_
        exact bwX7_bomb_42 C0 N a1 a2 a3 l0_31 l0_32 N a1 f0_36 f1 h
      · have h := it_ c_35 h
        refine a_bipush C0 (-2 : Int32) dX7_bomb_31 (by decide) ?_
        obtain rfl := Option.some.inj h
        exact a_iret C0 dX7_bomb_33 rfl rfl
set_option maxRecDepth 100000 in
theorem ctX7_bomb (l : Launch) (D : va_G) (cA : ClassId) (q0 q1 q2 q3 q4 q5 q6 q7 q8 q9 q10 q11 q12 q13 : Nat) (N : Nat) (a1 : Int32) (a2 : Int32) (a3 : Int32) (f0 : Nat → Int32) (l0_31 : Int64) (l0_32 : Int64) (f1 : Nat → Int32) {res : Int32 × (Nat → Int32) × (Nat → Int32)} (h : pX7_bomb N a1 a2 a3 f0 l0_31 l0_32 f1 = some res) : Cti l yX7_bomb wsX7_bomb (rmX7_bomb) D vwCl [(cA, .int)] [.ref q0, .int a1, .int a2, .int a3] (wdX7_1 cA q0 q1 q2 q3 q4 q5 q6 q7 q8 q9 q10 q11 q12 q13 f0 l0_31 l0_32 f1) (wdX7_1 cA q0 q1 q2 q3 q4 q5 q6 q7 q8 q9 q10 q11 q12 q13 res.2.1 l0_31 l0_32 res.2.2) 0 0 res.1 :=
  ct_i (maxL := 6) (cc := cX7_bomb) (by decide) rfl (Nat.le_of_ble_eq_true rfl) (fun p e s m below meth c C0 => bwX7_bomb C0 N a1 a2 a3 f0 l0_31 l0_32 f1 h)
