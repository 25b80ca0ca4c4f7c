/-! PackDrawer$PlainReader.take -/
abbrev wdX3_0 (cA : ClassId) (q0 q1 q2 q3 q4 : Nat) (f0 : Nat → Int32) (f1 : Nat → Int32) (f2 : Nat → Int32) (f3 : Nat → Int32) : va_W := [(q0, .inr (3, [.ref q1, .ref q3, .ref q4, .int (f0 3), .int (f0 4), .int (f0 5)])), (q1, .inr (5, [.ref q2, .int (f1 1)])), (q2, .inl (cA, 160, .inl f2)), (q3, .inr (0, [.ref q4, .int (f3 1), .int (f3 2), .int (f3 3), .int (f3 4), .int (f3 5), .int (f3 6), .int (f3 7), .int (f3 8), .int (f3 9), .int (f3 10), .int (f3 11)]))]
abbrev rmX3_take : Room := { frames := 2, cells := 0, slots := 0, locals := 42 }
theorem lkX3_take_43 : Cond.fieldLink RX3 43 RX3 (TX3 4).2.1 (TX3 4).2.2.1 ∈ wsX3_take := by decide +kernel
theorem inX3_take_X3 : ∀ w ∈ u_ws RX3 TX3 6, w ∈ wsX3_take := by decide +kernel
theorem lkX3_take_15 : Cond.fieldLink RX3 15 RX3 (TX3 1).2.1 (TX3 1).2.2.1 ∈ wsX3_take := by decide +kernel
theorem lkX3_take_30 : Cond.fieldLink RX3 30 RX3 (TX3 5).2.1 (TX3 5).2.2.1 ∈ wsX3_take := by decide +kernel
theorem lkX3_take_40 : Cond.fieldLink RX3 40 RX3 (TX3 3).2.1 (TX3 3).2.2.1 ∈ wsX3_take := by decide +kernel
theorem lkX3_take_9 : Cond.fieldLink RX3 9 RX3 (TX3 0).2.1 (TX3 0).2.2.1 ∈ wsX3_take := by decide +kernel
def bfX3_take_37 (a1 : Int32) (f1 : Nat → Int32) (f2 : Nat → Int32) (s1 : Int32) (f0 : Nat → Int32) (f3 : Nat → Int32) : Option (Int32 × (Nat → Int32) × (Nat → Int32)) := bd1 (pX0_fail s1 (f0 4) f3) (fun f3_1 => some ((0 : Int32), f0, f3_1))
def pX3_take (a1 : Int32) (f0 : Nat → Int32) (f1 : Nat → Int32) (f2 : Nat → Int32) (f3 : Nat → Int32) : Option (Int32 × (Nat → Int32) × (Nat → Int32)) := bd1 (pX0_failed f3) (fun r_3 => if r_3 = 0 then if (f0 5) < (f0 3) then lt_ (upd f0 5 ((f0 5) + (1 : Int32))) (fun f0_7 => bd1 (pX5_byteAt ((f0_7 5) - (1 : Int32)) f1 f2) (fun r_8 => some (r_8, f0_7, f3))) else if a1 = (1 : Int32) then bfX3_take_37 a1 f1 f2 (1 : Int32) f0 f3 else bfX3_take_37 a1 f1 f2 (2 : Int32) f0 f3 else some ((0 : Int32), f0, f3))
set_option maxHeartbeats 4000000 in
set_option maxRecDepth 100000 in
theorem bwX3_take_37 {p : Program} {l : Launch} {e : Env} {s : State} {m : MethodId} {args : Array Value} {below : List Frame} {meth : Method} {c : Code} {D : va_G} {A : Nat → Prop} {cA : ClassId} {q0 q1 q2 q3 q4 : Nat} {res : Int32 × (Nat → Int32) × (Nat → Int32)} (C0 : cx p s m args meth c cX3_take 2 RX3 wsX3_take (some .int) D vwCl [(cA, .int)] A) (a1 : Int32) (f1 : Nat → Int32) (f2 : Nat → Int32) (s1 : Int32) (f0 : Nat → Int32) (f3 : Nat → Int32) (h : bfX3_take_37 a1 f1 f2  s1 f0 f3 = some res) : At_ p l e (rmX3_take) s m args below meth c D vwCl A 2 0 0 (Qi_ below args s D vwCl A (wdX3_0 cA q0 q1 q2 q3 q4 res.2.1 f1 f2 res.2.2) res.1) 37 [(0, .ref q0), (1, .int a1)] [.int s1, .ref q3] (wdX3_0 cA q0 q1 q2 q3 q4 f0 f1 f2 f3) := by
  unfold bfX3_take_37 at h
  refine a_aload_n C0 dX3_take_37 rfl 0 rfl ?_
  refine a_get C0 inX3_take_X3 0 rfl rfl 4 (by decide) lkX3_take_43 (fun _ h9 => h9) (.int (f0 4)) rfl dX3_take_38 ?_
  obtain ⟨f3_1, h_2, h⟩ := bd1_e h
  refine a_callVv C0 (wdX3_0 cA q0 q1 q2 q3 q4 f0 f1 f2 f3_1) (As := [.int s1, .int (f0 4)]) (rest := []) (ctX0_fail l D cA q3 q4 s1 (f0 4) f3 h_2) (cwV 2 C0.1.2.2.2.2 gX3_take_X0_fail rfl rfl rfl hdX0_fail ⟨Nat.le_of_ble_eq_true rfl, Nat.le_of_ble_eq_true rfl⟩) [3] [0, 1, 2] [0, 1, 2, 3] rfl rfl rfl rfl (by decide) rfl rfl rfl rfl rfl rfl (Nat.le_of_ble_eq_true rfl) dX3_take_41 ⟨Nat.zero_le _, Nat.zero_le _⟩ ?_
  refine a_iconst C0 (0 : Int32) dX3_take_44 (by decide) ?_
  obtain rfl := Option.some.inj h
  exact a_iret C0 dX3_take_45 rfl rfl
set_option maxHeartbeats 4000000 in
set_option maxRecDepth 100000 in
theorem bwX3_take {p : Program} {l : Launch} {e : Env} {s : State} {m : MethodId} {args : Array Value} {below : List Frame} {meth : Method} {c : Code} {D : va_G} {A : Nat → Prop} {cA : ClassId} {q0 q1 q2 q3 q4 : Nat} {res : Int32 × (Nat → Int32) × (Nat → Int32)} (C0 : cx p s m args meth c cX3_take 2 RX3 wsX3_take (some .int) D vwCl [(cA, .int)] A) (a1 : Int32) (f0 : Nat → Int32) (f1 : Nat → Int32) (f2 : Nat → Int32) (f3 : Nat → Int32) (h : pX3_take a1 f0 f1 f2 f3 = some res) : At_ p l e (rmX3_take) s m args below meth c D vwCl A 2 0 0 (Qi_ below args s D vwCl A (wdX3_0 cA q0 q1 q2 q3 q4 res.2.1 f1 f2 res.2.2) res.1) 0 [(0, .ref q0), (1, .int a1)] [] (wdX3_0 cA q0 q1 q2 q3 q4 f0 f1 f2 f3) := by
  unfold pX3_take at h
  refine a_aload_n C0 dX3_take_0 rfl 0 rfl ?_
  refine a_get C0 inX3_take_X3 0 rfl rfl 1 (by decide) lkX3_take_15 (fun _ h9 => h9) (.ref q3) rfl dX3_take_1 ?_
  obtain ⟨r_3, h_4, h⟩ := bd1_e h
  refine a_callVi C0 (wdX3_0 cA q0 q1 q2 q3 q4 f0 f1 f2 f3) (As := []) (rest := []) (ctX0_failed l D cA q3 q4 f3 h_4) (cwV 0 C0.1.2.2.2.2 gX3_take_X0_failed rfl rfl rfl hdX0_failed ⟨Nat.le_of_ble_eq_true rfl, Nat.le_of_ble_eq_true rfl⟩) [3] [0, 1, 2] [0, 1, 2, 3] rfl rfl rfl rfl (by decide) rfl rfl rfl rfl rfl rfl (Nat.le_of_ble_eq_true rfl) dX3_take_4 ⟨Nat.zero_le _, Nat.zero_le _⟩ ?_
  refine a_if_eq C0 12 dX3_take_7 (by decide) (fun c_5 => ?_) (fun c_5 => ?_)
  · have h := it_ c_5 h
    refine a_aload_n C0 dX3_take_12 rfl 0 rfl ?_
    refine a_get C0 inX3_take_X3 0 rfl rfl 5 (by decide) lkX3_take_30 (fun _ h9 => h9) (.int (f0 5)) rfl dX3_take_13 ?_
    refine a_aload_n C0 dX3_take_16 rfl 0 rfl ?_
    refine a_get C0 inX3_take_X3 0 rfl rfl 3 (by decide) lkX3_take_40 (fun _ h9 => h9) (.int (f0 3)) rfl dX3_take_17 ?_
    refine a_icmp_lt C0 46 dX3_take_20 (by decide) (fun c_6 => ?_) (fun c_6 => ?_)
    · have h := it_ c_6 h
      refine a_aload_n C0 dX3_take_46 rfl 0 rfl ?_
      refine a_dup C0 dX3_take_47 rfl ?_
      refine a_get C0 inX3_take_X3 0 rfl rfl 5 (by decide) lkX3_take_30 (fun _ h9 => h9) (.int (f0 5)) rfl dX3_take_48 ?_
      refine a_iconst C0 (1 : Int32) dX3_take_51 (by decide) ?_
      refine a_iadd C0 dX3_take_52 ?_
      obtain ⟨f0_7, ef0_7, h⟩ := lt_e h
      refine a_put C0 inX3_take_X3 tyX3 tyX3_ok nmX3 0 rfl rfl 5 (by decide) lkX3_take_30 (fun _ h9 => h9) rfl (ty := .int) (v := .int ((f0 5) + (1 : Int32))) (by decide +kernel) rfl rfl (Nat.le_of_ble_eq_true rfl) dX3_take_53 (wdX3_0 cA q0 q1 q2 q3 q4 f0_7 f1 f2 f3) (by subst ef0_7; rfl) ?_
      refine a_aload_n C0 dX3_take_56 rfl 0 rfl ?_
      refine a_get C0 inX3_take_X3 0 rfl rfl 0 (by decide) lkX3_take_9 (fun _ h9 => h9) (.ref q1) rfl dX3_take_57 ?_
      refine a_aload_n C0 dX3_take_60 rfl 0 rfl ?_
      refine a_get C0 inX3_take_X3 0 rfl rfl 5 (by decide) lkX3_take_30 (fun _ h9 => h9) (.int (f0_7 5)) rfl dX3_take_61 ?_
      refine a_iconst C0 (1 : Int32) dX3_take_64 (by decide) ?_
      refine a_isub C0 dX3_take_65 ?_
      obtain ⟨r_8, h_9, h⟩ := bd1_e h
      refine a_callVi C0 (wdX3_0 cA q0 q1 q2 q3 q4 f0_7 f1 f2 f3) (As := [.int ((f0_7 5) - (1 : Int32))]) (rest := []) (ctX5_byteAt l D cA q1 q2 ((f0_7 5) - (1 : Int32)) f1 f2 h_9) (cwV 1 C0.1.2.2.2.2 gX3_take_X5_byteAt rfl rfl rfl hdX5_byteAt ⟨Nat.le_of_ble_eq_true rfl, Nat.le_of_ble_eq_true rfl⟩) [1, 2] [0, 3] [0, 2, 3, 1] rfl rfl rfl rfl (by decide) rfl rfl rfl rfl rfl rfl (Nat.le_of_ble_eq_true rfl) dX3_take_66 ⟨Nat.zero_le _, Nat.zero_le _⟩ ?_
      obtain rfl := Option.some.inj h
      exact a_iret C0 dX3_take_69 rfl rfl
    · have h := ie_ c_6 h
      refine a_aload_n C0 dX3_take_23 rfl 0 rfl ?_
      refine a_get C0 inX3_take_X3 0 rfl rfl 1 (by decide) lkX3_take_15 (fun _ h9 => h9) (.ref q3) rfl dX3_take_24 ?_
      refine a_iload_n C0 dX3_take_27 rfl 1 rfl ?_
      refine a_iconst C0 (1 : Int32) dX3_take_28 (by decide) ?_
      refine a_icmp_ne C0 36 dX3_take_29 (by decide) (fun c_10 => ?_) (fun c_10 => ?_)
      · have h := ie_ c_10 h
        refine a_iconst C0 (2 : Int32) dX3_take_36 (by decide) ?_
        exact bwX3_take_37 C0 a1 f1 f2 (2 : Int32) f0 f3 h
      · have h := it_ c_10 h
        refine a_iconst C0 (1 : Int32) dX3_take_32 (by decide) ?_
        refine a_goto C0 37 dX3_take_33 (by decide) ?_
        exact bwX3_take_37 C0 a1 f1 f2 (1 : Int32) f0 f3 h
  · have h := ie_ c_5 h
    refine a_iconst C0 (0 : Int32) dX3_take_10 (by decide) ?_
    obtain rfl := Option.some.inj h
    exact a_iret C0 dX3_take_11 rfl rfl
set_option maxRecDepth 100000 in
theorem ctX3_take (l : Launch) (D : va_G) (cA : ClassId) (q0 q1 q2 q3 q4 : Nat) (a1 : Int32) (f0 : Nat → Int32) (f1 : Nat → Int32) (f2 : Nat → Int32) (f3 : Nat → Int32) {res : Int32 × (Nat → Int32) × (Nat → Int32)} (h : pX3_take a1 f0 f1 f2 f3 = some res) : Cti l yX3_take wsX3_take (rmX3_take) D vwCl [(cA, .int)] [.ref q0, .int a1] (wdX3_0 cA q0 q1 q2 q3 q4 f0 f1 f2 f3) (wdX3_0 cA q0 q1 q2 q3 q4 res.2.1 f1 f2 res.2.2) 0 0 res.1 :=
  ct_i (maxL := 2) (cc := cX3_take) (by decide) rfl (Nat.le_of_ble_eq_true rfl) (fun p e s m below meth c C0 => bwX3_take C0 a1 f0 f1 f2 f3 h)
/-! PackDrawer$PlainReader.beginItem -/
theorem hdX3_take : yX3_take.cls = RX3 ∧ yX3_take.cls ≠ "java/lang/invoke/MethodHandle" ∧ yX3_take.cls ≠ "java/lang/invoke/VarHandle" ∧ (parseMethodDescriptor yX3_take.desc).map (fun d => d.parameters.length) = some 1 := by decide +kernel
abbrev rmX3_beginItem : Room := { frames := 3, cells := 0, slots := 0, locals := 63 }
theorem lkX3_beginItem_30 : Cond.fieldLink RX3 30 RX3 (TX3 5).2.1 (TX3 5).2.2.1 ∈ wsX3_beginItem := by decide +kernel
theorem inX3_beginItem_X3 : ∀ w ∈ u_ws RX3 TX3 6, w ∈ wsX3_beginItem := by decide +kernel
theorem lkX3_beginItem_15 : Cond.fieldLink RX3 15 RX3 (TX3 1).2.1 (TX3 1).2.2.1 ∈ wsX3_beginItem := by decide +kernel
def pX3_beginItem (a1 : Int32) (f0 : Nat → Int32) (f1 : Nat → Int32) (f2 : Nat → Int32) (f3 : Nat → Int32) : Option (Int32 × (Nat → Int32) × (Nat → Int32)) := lt_ ((f0 5)) (fun x_1 => bd3 (pX3_take a1 f0 f1 f2 f3) (fun r_2 f0_3 f3_4 => bd1 (pX0_failed f3_4) (fun r_6 => if r_6 = 0 then bd2 (pX0_beginItem x_1 f3_4) (fun r_9 f3_10 => if r_9 = 0 then some ((0 : Int32), f0_3, f3_10) else some (r_2, f0_3, f3_10)) else some ((0 : Int32), f0_3, f3_4))))
set_option maxHeartbeats 4000000 in
set_option maxRecDepth 100000 in
theorem bwX3_beginItem {p : Program} {l : Launch} {e : Env} {s : State} {m : MethodId} {args : Array Value} {below : List Frame} {meth : Method} {c : Code} {D : va_G} {A : Nat → Prop} {cA : ClassId} {q0 q1 q2 q3 q4 : Nat} {res : Int32 × (Nat → Int32) × (Nat → Int32)} (C0 : cx p s m args meth c cX3_beginItem 4 RX3 wsX3_beginItem (some .int) D vwCl [(cA, .int)] A) (a1 : Int32) (f0 : Nat → Int32) (f1 : Nat → Int32) (f2 : Nat → Int32) (f3 : Nat → Int32) (h : pX3_beginItem a1 f0 f1 f2 f3 = some res) : At_ p l e (rmX3_beginItem) s m args below meth c D vwCl A 4 0 0 (Qi_ below args s D vwCl A (wdX3_0 cA q0 q1 q2 q3 q4 res.2.1 f1 f2 res.2.2) res.1) 0 [(0, .ref q0), (1, .int a1)] [] (wdX3_0 cA q0 q1 q2 q3 q4 f0 f1 f2 f3) := by
  unfold pX3_beginItem at h
  refine a_aload_n C0 dX3_beginItem_0 rfl 0 rfl ?_
  refine a_get C0 inX3_beginItem_X3 0 rfl rfl 5 (by decide) lkX3_beginItem_30 (fun _ h9 => h9) (.int (f0 5)) rfl dX3_beginItem_1 ?_
  obtain ⟨x_1, ex_1, h⟩ := lt_e h
  refine a_topi ex_1 ?_
  refine a_istore_n C0 [(2, .int x_1), (0, .ref q0), (1, .int a1)] dX3_beginItem_4 rfl (by decide) rfl ?_
  refine a_aload_n C0 dX3_beginItem_5 rfl 1 rfl ?_
  refine a_iload_n C0 dX3_beginItem_6 rfl 2 rfl ?_
  obtain ⟨r_2, f0_3, f3_4, h_5, h⟩ := bd3_e h
  refine a_callVi C0 (wdX3_0 cA q0 q1 q2 q3 q4 f0_3 f1 f2 f3_4) (As := [.int a1]) (rest := []) (ctX3_take l D cA q0 q1 q2 q3 q4 a1 f0 f1 f2 f3 h_5) (cwV 1 C0.1.2.2.2.2 gX3_beginItem_X3_take rfl rfl rfl hdX3_take ⟨Nat.le_of_ble_eq_true rfl, Nat.le_of_ble_eq_true rfl⟩) [0, 1, 2, 3] [] [0, 1, 2, 3] rfl rfl rfl rfl (by decide) rfl rfl rfl rfl rfl rfl (Nat.le_of_ble_eq_true rfl) dX3_beginItem_7 ⟨Nat.zero_le _, Nat.zero_le _⟩ ?_
  refine a_istore_n C0 [(3, .int r_2), (2, .int x_1), (0, .ref q0), (1, .int a1)] dX3_beginItem_10 rfl (by decide) rfl ?_
  refine a_aload_n C0 dX3_beginItem_11 rfl 2 rfl ?_
  refine a_get C0 inX3_beginItem_X3 0 rfl rfl 1 (by decide) lkX3_beginItem_15 (fun _ h9 => h9) (.ref q3) rfl dX3_beginItem_12 ?_
  obtain ⟨r_6, h_7, h⟩ := bd1_e h
  refine a_callVi C0 (wdX3_0 cA q0 q1 q2 q3 q4 f0_3 f1 f2 f3_4) (As := []) (rest := []) (ctX0_failed l D cA q3 q4 f3_4 h_7) (cwV 0 C0.1.2.2.2.2 gX3_beginItem_X0_failed rfl rfl rfl hdX0_failed ⟨Nat.le_of_ble_eq_true rfl, Nat.le_of_ble_eq_true rfl⟩) [3] [0, 1, 2] [0, 1, 2, 3] rfl rfl rfl rfl (by decide) rfl rfl rfl rfl rfl rfl (Nat.le_of_ble_eq_true rfl) dX3_beginItem_15 ⟨Nat.zero_le _, Nat.zero_le _⟩ ?_
  refine a_if_ne C0 32 dX3_beginItem_18 (by decide) (fun c_8 => ?_) (fun c_8 => ?_)
  · have h := ie_ c_8 h
    refine a_iconst C0 (0 : Int32) dX3_beginItem_32 (by decide) ?_
    obtain rfl := Option.some.inj h
    exact a_iret C0 dX3_beginItem_33 rfl rfl
  · have h := it_ c_8 h
    refine a_aload_n C0 dX3_beginItem_21 rfl 2 rfl ?_
    refine a_get C0 inX3_beginItem_X3 0 rfl rfl 1 (by decide) lkX3_beginItem_15 (fun _ h9 => h9) (.ref q3) rfl dX3_beginItem_22 ?_
    refine a_iload_n C0 dX3_beginItem_25 rfl 1 rfl ?_
    obtain ⟨r_9, f3_10, h_11, h⟩ := bd2_e h
    refine a_callVi C0 (wdX3_0 cA q0 q1 q2 q3 q4 f0_3 f1 f2 f3_10) (As := [.int x_1]) (rest := []) (ctX0_beginItem l D cA q3 q4 x_1 f3_4 h_11) (cwV 1 C0.1.2.2.2.2 gX3_beginItem_X0_beginItem rfl rfl rfl hdX0_beginItem ⟨Nat.le_of_ble_eq_true rfl, Nat.le_of_ble_eq_true rfl⟩) [3] [0, 1, 2] [0, 1, 2, 3] rfl rfl rfl rfl (by decide) rfl rfl rfl rfl rfl rfl (Nat.le_of_ble_eq_true rfl) dX3_beginItem_26 ⟨Nat.zero_le _, Nat.zero_le _⟩ ?_
    refine a_if_ne C0 34 dX3_beginItem_29 (by decide) (fun c_12 => ?_) (fun c_12 => ?_)
    · have h := ie_ c_12 h
      refine a_iload_n C0 dX3_beginItem_34 rfl 0 rfl ?_
      obtain rfl := Option.some.inj h
      exact a_iret C0 dX3_beginItem_35 rfl rfl
    · have h := it_ c_12 h
      refine a_iconst C0 (0 : Int32) dX3_beginItem_32 (by decide) ?_
      obtain rfl := Option.some.inj h
      exact a_iret C0 dX3_beginItem_33 rfl rfl
set_option maxRecDepth 100000 in
theorem ctX3_beginItem (l : Launch) (D : va_G) (cA : ClassId) (q0 q1 q2 q3 q4 : Nat) (a1 : Int32) (f0 : Nat → Int32) (f1 : Nat → Int32) (f2 : Nat → Int32) (f3 : Nat → Int32) {res : Int32 × (Nat → Int32) × (Nat → Int32)} (h : pX3_beginItem a1 f0 f1 f2 f3 = some res) : Cti l yX3_beginItem wsX3_beginItem (rmX3_beginItem) D vwCl [(cA, .int)] [.ref q0, .int a1] (wdX3_0 cA q0 q1 q2 q3 q4 f0 f1 f2 f3) (wdX3_0 cA q0 q1 q2 q3 q4 res.2.1 f1 f2 res.2.2) 0 0 res.1 :=
  ct_i (maxL := 4) (cc := cX3_beginItem) (by decide) rfl (Nat.le_of_ble_eq_true rfl) (fun p e s m below meth c C0 => bwX3_beginItem C0 a1 f0 f1 f2 f3 h)
/-! PackDrawer$PlainReader.readRaw -/
abbrev wdX3_1 (cA : ClassId) (q0 q1 q2 q3 q4 q5 : Nat) (f0 : Nat → Int32) (f1 : Nat → Int32) (f2 : Nat → Int32) (f3 : Nat → Int32) (f4 : Nat → Int32) (f5 : Nat → Int32) : va_W := [(q0, .inr (3, [.ref q1, .ref q3, .ref q4, .int (f0 3), .int (f0 4), .int (f0 5)])), (q1, .inr (5, [.ref q2, .int (f1 1)])), (q2, .inl (cA, 160, .inl f2)), (q3, .inr (0, [.ref q4, .int (f3 1), .int (f3 2), .int (f3 3), .int (f3 4), .int (f3 5), .int (f3 6), .int (f3 7), .int (f3 8), .int (f3 9), .int (f3 10), .int (f3 11)])), (q4, .inr (4, [.ref q5, .int (f4 1)])), (q5, .inl (cA, 800, .inl f5))]
theorem hdX0_give : yX0_give.cls = RX0 ∧ yX0_give.cls ≠ "java/lang/invoke/MethodHandle" ∧ yX0_give.cls ≠ "java/lang/invoke/VarHandle" ∧ (parseMethodDescriptor yX0_give.desc).map (fun d => d.parameters.length) = some 3 := by decide +kernel
abbrev rmX3_readRaw : Room := { frames := 3, cells := 0, slots := 0, locals := 63 }
theorem lkX3_readRaw_15 : Cond.fieldLink RX3 15 RX3 (TX3 1).2.1 (TX3 1).2.2.1 ∈ wsX3_readRaw := by decide +kernel
theorem inX3_readRaw_X3 : ∀ w ∈ u_ws RX3 TX3 6, w ∈ wsX3_readRaw := by decide +kernel
theorem lkX3_readRaw_9 : Cond.fieldLink RX3 9 RX3 (TX3 0).2.1 (TX3 0).2.2.1 ∈ wsX3_readRaw := by decide +kernel
theorem lkX3_readRaw_30 : Cond.fieldLink RX3 30 RX3 (TX3 5).2.1 (TX3 5).2.2.1 ∈ wsX3_readRaw := by decide +kernel
def bfX3_readRaw_83 (N : Nat) (a1 : Int32) (a2 : Int32) (a3 : Int32) (f1 : Nat → Int32) (f2 : Nat → Int32) (rc40 : Int32 → Int32 → (Nat → Int32) → (Nat → Int32) → (Nat → Int32) → (Nat → Int32) → Option ((Nat → Int32) × (Nat → Int32) × (Nat → Int32) × (Nat → Int32))) (v4 : Int32) (v5 : Int32) (s1 : Int32) (s2 : Int32) (s3 : Int32) (f0 : Nat → Int32) (f3 : Nat → Int32) (f4 : Nat → Int32) (f5 : Nat → Int32) : Option ((Nat → Int32) × (Nat → Int32) × (Nat → Int32) × (Nat → Int32)) := bd3 (pX0_give s1 s2 s3 f3 f4 f5) (fun f3_1 f4_2 f5_3 => lt_ ((v5 + (1 : Int32))) (fun x_5 => rc40 v4 x_5 f0 f3_1 f4_2 f5_3))
def bFX3_readRaw_40 (N : Nat) (a1 : Int32) (a2 : Int32) (a3 : Int32) (f1 : Nat → Int32) (f2 : Nat → Int32) (rc40 : Int32 → Int32 → (Nat → Int32) → (Nat → Int32) → (Nat → Int32) → (Nat → Int32) → Option ((Nat → Int32) × (Nat → Int32) × (Nat → Int32) × (Nat → Int32))) (v4 : Int32) (v5 : Int32) (f0 : Nat → Int32) (f3 : Nat → Int32) (f4 : Nat → Int32) (f5 : Nat → Int32) : Option ((Nat → Int32) × (Nat → Int32) × (Nat → Int32) × (Nat → Int32)) := if a1 ≤ v5 then some (f0, f3, f4, f5) else bd1 (pX0_failed f3) (fun r_7 => if r_7 = 0 then bd1 (pX5_byteAt (v4 + v5) f1 f2) (fun r_10 => if a3 = (1 : Int32) then bfX3_readRaw_83 N a1 a2 a3 f1 f2 rc40 v4 v5 r_10 a2 (1 : Int32) f0 f3 f4 f5 else bfX3_readRaw_83 N a1 a2 a3 f1 f2 rc40 v4 v5 r_10 a2 (0 : Int32) f0 f3 f4 f5) else some (f0, f3, f4, f5))
def bfX3_readRaw_40 (N : Nat) (a1 : Int32) (a2 : Int32) (a3 : Int32) (f1 : Nat → Int32) (f2 : Nat → Int32) : Nat → Int32 → Int32 → (Nat → Int32) → (Nat → Int32) → (Nat → Int32) → (Nat → Int32) → Option ((Nat → Int32) × (Nat → Int32) × (Nat → Int32) × (Nat → Int32))
  | 0 => fun _ _ _ _ _ _ => none
  | n + 1 => bFX3_readRaw_40 N a1 a2 a3 f1 f2  (bfX3_readRaw_40 N a1 a2 a3 f1 f2  n)
def bfX3_readRaw_37 (N : Nat) (a1 : Int32) (a2 : Int32) (a3 : Int32) (f1 : Nat → Int32) (f2 : Nat → Int32) (v4 : Int32) (f0 : Nat → Int32) (f3 : Nat → Int32) (f4 : Nat → Int32) (f5 : Nat → Int32) : Option ((Nat → Int32) × (Nat → Int32) × (Nat → Int32) × (Nat → Int32)) := bfX3_readRaw_40 N a1 a2 a3 f1 f2 N v4 (0 : Int32) f0 f3 f4 f5
def bFX3_readRaw_9 (N : Nat) (a1 : Int32) (a2 : Int32) (a3 : Int32) (f1 : Nat → Int32) (f2 : Nat → Int32) (rc9 : Int32 → Int32 → (Nat → Int32) → (Nat → Int32) → (Nat → Int32) → (Nat → Int32) → Option ((Nat → Int32) × (Nat → Int32) × (Nat → Int32) × (Nat → Int32))) (v4 : Int32) (v5 : Int32) (f0 : Nat → Int32) (f3 : Nat → Int32) (f4 : Nat → Int32) (f5 : Nat → Int32) : Option ((Nat → Int32) × (Nat → Int32) × (Nat → Int32) × (Nat → Int32)) := if a1 ≤ v5 then bfX3_readRaw_37 N a1 a2 a3 f1 f2 v4 f0 f3 f4 f5 else bd1 (pX0_failed f3) (fun r_14 => if r_14 = 0 then bd3 (pX3_take a3 f0 f1 f2 f3) (fun r_17 f0_18 f3_19 => lt_ ((v5 + (1 : Int32))) (fun x_21 => rc9 v4 x_21 f0_18 f3_19 f4 f5)) else bfX3_readRaw_37 N a1 a2 a3 f1 f2 v4 f0 f3 f4 f5)
def bfX3_readRaw_9 (N : Nat) (a1 : Int32) (a2 : Int32) (a3 : Int32) (f1 : Nat → Int32) (f2 : Nat → Int32) : Nat → Int32 → Int32 → (Nat → Int32) → (Nat → Int32) → (Nat → Int32) → (Nat → Int32) → Option ((Nat → Int32) × (Nat → Int32) × (Nat → Int32) × (Nat → Int32))
  | 0 => fun _ _ _ _ _ _ => none
  | n + 1 => bFX3_readRaw_9 N a1 a2 a3 f1 f2  (bfX3_readRaw_9 N a1 a2 a3 f1 f2  n)
def pX3_readRaw (N : Nat) (a1 : Int32) (a2 : Int32) (a3 : Int32) (f0 : Nat → Int32) (f1 : Nat → Int32) (f2 : Nat → Int32) (f3 : Nat → Int32) (f4 : Nat → Int32) (f5 : Nat → Int32) : Option ((Nat → Int32) × (Nat → Int32) × (Nat → Int32) × (Nat → Int32)) := lt_ ((f0 5)) (fun x_22 => bfX3_readRaw_9 N a1 a2 a3 f1 f2 N x_22 (0 : Int32) f0 f3 f4 f5)
set_option maxHeartbeats 4000000 in
set_option maxRecDepth 100000 in
theorem bwX3_readRaw_83 {p : Program} {l : Launch} {e : Env} {s : State} {m : MethodId} {args : Array Value} {below : List Frame} {meth : Method} {c : Code} {D : va_G} {A : Nat → Prop} {cA : ClassId} {q0 q1 q2 q3 q4 q5 : Nat} {res : (Nat → Int32) × (Nat → Int32) × (Nat → Int32) × (Nat → Int32)} (C0 : cx p s m args meth c cX3_readRaw 6 RX3 wsX3_readRaw none D vwCl [(cA, .int)] A) (N : Nat) (a1 : Int32) (a2 : Int32) (a3 : Int32) (f1 : Nat → Int32) (f2 : Nat → Int32) (rc40 : Int32 → Int32 → (Nat → Int32) → (Nat → Int32) → (Nat → Int32) → (Nat → Int32) → Option ((Nat → Int32) × (Nat → Int32) × (Nat → Int32) × (Nat → Int32))) (hrc40 : ∀ (v4 : Int32) (v5 : Int32) (f0 : Nat → Int32) (f3 : Nat → Int32) (f4 : Nat → Int32) (f5 : Nat → Int32), rc40 v4 v5 f0 f3 f4 f5 = some res → At_ p l e (rmX3_readRaw) s m args below meth c D vwCl A 6 0 0 (Qv_ below args s D vwCl A (wdX3_1 cA q0 q1 q2 q3 q4 q5 res.1 f1 f2 res.2.1 res.2.2.1 res.2.2.2)) 40 [(0, .ref q0), (1, .int a1), (2, .int a2), (3, .int a3), (4, .int v4), (5, .int v5)] [] (wdX3_1 cA q0 q1 q2 q3 q4 q5 f0 f1 f2 f3 f4 f5)) (v4 : Int32) (v5 : Int32) (s1 : Int32) (s2 : Int32) (s3 : Int32) (f0 : Nat → Int32) (f3 : Nat → Int32) (f4 : Nat → Int32) (f5 : Nat → Int32) (h : bfX3_readRaw_83 N a1 a2 a3 f1 f2 rc40 v4 v5 s1 s2 s3 f0 f3 f4 f5 = some res) : At_ p l e (rmX3_readRaw) s m args below meth c D vwCl A 6 0 0 (Qv_ below args s D vwCl A (wdX3_1 cA q0 q1 q2 q3 q4 q5 res.1 f1 f2 res.2.1 res.2.2.1 res.2.2.2)) 83 [(0, .ref q0), (1, .int a1), (2, .int a2), (3, .int a3), (4, .int v4), (5, .int v5)] [.int s3, .int s2, .int s1, .ref q3] (wdX3_1 cA q0 q1 q2 q3 q4 q5 f0 f1 f2 f3 f4 f5) := by
  unfold bfX3_readRaw_83 at h
  obtain ⟨f3_1, f4_2, f5_3, h_4, h⟩ := bd3_e h
  refine a_callVv C0 (wdX3_1 cA q0 q1 q2 q3 q4 q5 f0 f1 f2 f3_1 f4_2 f5_3) (As := [.int s1, .int s2, .int s3]) (rest := []) (ctX0_give l D cA q3 q4 q5 s1 s2 s3 f3 f4 f5 h_4) (cwV 3 C0.1.2.2.2.2 gX3_readRaw_X0_give rfl rfl rfl hdX0_give ⟨Nat.le_of_ble_eq_true rfl, Nat.le_of_ble_eq_true rfl⟩) [3, 4, 5] [0, 1, 2] [0, 1, 2, 3, 4, 5] rfl rfl rfl rfl (by decide) rfl rfl rfl rfl rfl rfl (Nat.le_of_ble_eq_true rfl) dX3_readRaw_83 ⟨Nat.zero_le _, Nat.zero_le _⟩ ?_
  obtain ⟨x_5, ex_5, h⟩ := lt_e h
  refine a_iinc C0 x_5 [(5, .int x_5), (0, .ref q0), (1, .int a1), (2, .int a2), (3, .int a3), (4, .int v4)] dX3_readRaw_86 5 rfl (by subst ex_5; rfl) (by decide) rfl ?_
  refine a_goto C0 40 dX3_readRaw_89 (by decide) ?_
  refine a_lv [1, 2, 3, 4, 5, 0] (lv' := [(0, .ref q0), (1, .int a1), (2, .int a2), (3, .int a3), (4, .int v4), (5, .int x_5)]) rfl ?_
  exact hrc40 v4 x_5 f0 f3_1 f4_2 f5_3 h
set_option maxHeartbeats 4000000 in
set_option maxRecDepth 100000 in
theorem bwX3_readRaw_40 {p : Program} {l : Launch} {e : Env} {s : State} {m : MethodId} {args : Array Value} {below : List Frame} {meth : Method} {c : Code} {D : va_G} {A : Nat → Prop} {cA : ClassId} {q0 q1 q2 q3 q4 q5 : Nat} {res : (Nat → Int32) × (Nat → Int32) × (Nat → Int32) × (Nat → Int32)} (C0 : cx p s m args meth c cX3_readRaw 6 RX3 wsX3_readRaw none D vwCl [(cA, .int)] A) (N : Nat) (a1 : Int32) (a2 : Int32) (a3 : Int32) (f1 : Nat → Int32) (f2 : Nat → Int32) : ∀ (n : Nat) (v4 : Int32) (v5 : Int32) (f0 : Nat → Int32) (f3 : Nat → Int32) (f4 : Nat → Int32) (f5 : Nat → Int32), bfX3_readRaw_40 N a1 a2 a3 f1 f2  n v4 v5 f0 f3 f4 f5 = some res → At_ p l e (rmX3_readRaw) s m args below meth c D vwCl A 6 0 0 (Qv_ below args s D vwCl A (wdX3_1 cA q0 q1 q2 q3 q4 q5 res.1 f1 f2 res.2.1 res.2.2.1 res.2.2.2)) 40 [(0, .ref q0), (1, .int a1), (2, .int a2), (3, .int a3), (4, .int v4), (5, .int v5)] [] (wdX3_1 cA q0 q1 q2 q3 q4 q5 f0 f1 f2 f3 f4 f5) := by
  intro n
  induction n with
  | zero => intro v4 v5 f0 f3 f4 f5 h; cases h
  | succ n hrc40 =>
    intro v4 v5 f0 f3 f4 f5 h
    replace h : bFX3_readRaw_40 N a1 a2 a3 f1 f2  (bfX3_readRaw_40 N a1 a2 a3 f1 f2  n) v4 v5 f0 f3 f4 f5 = some res := h
    generalize bfX3_readRaw_40 N a1 a2 a3 f1 f2  n = rc40 at h hrc40
    unfold bFX3_readRaw_40 at h
    refine a_iload C0 dX3_readRaw_40 5 rfl ?_
    refine a_iload_n C0 dX3_readRaw_42 rfl 1 rfl ?_
    refine a_icmp_ge C0 92 dX3_readRaw_43 (by decide) (fun c_6 => ?_) (fun c_6 => ?_)
    · have h := it_ c_6 h
      obtain rfl := Option.some.inj h
      exact a_vret C0 dX3_readRaw_92 rfl
    · have h := ie_ c_6 h
      refine a_aload_n C0 dX3_readRaw_46 rfl 0 rfl ?_
      refine a_get C0 inX3_readRaw_X3 0 rfl rfl 1 (by decide) lkX3_readRaw_15 (fun _ h9 => h9) (.ref q3) rfl dX3_readRaw_47 ?_
      obtain ⟨r_7, h_8, h⟩ := bd1_e h
      refine a_callVi C0 (wdX3_1 cA q0 q1 q2 q3 q4 q5 f0 f1 f2 f3 f4 f5) (As := []) (rest := []) (ctX0_failed l D cA q3 q4 f3 h_8) (cwV 0 C0.1.2.2.2.2 gX3_readRaw_X0_failed rfl rfl rfl hdX0_failed ⟨Nat.le_of_ble_eq_true rfl, Nat.le_of_ble_eq_true rfl⟩) [3] [0, 1, 2, 4, 5] [0, 1, 2, 5, 3, 4] rfl rfl rfl rfl (by decide) rfl rfl rfl rfl rfl rfl (Nat.le_of_ble_eq_true rfl) dX3_readRaw_50 ⟨Nat.zero_le _, Nat.zero_le _⟩ ?_
      refine a_if_ne C0 92 dX3_readRaw_53 (by decide) (fun c_9 => ?_) (fun c_9 => ?_)
      · have h := ie_ c_9 h
        obtain rfl := Option.some.inj h
        exact a_vret C0 dX3_readRaw_92 rfl
      · have h := it_ c_9 h
        refine a_aload_n C0 dX3_readRaw_56 rfl 0 rfl ?_
        refine a_get C0 inX3_readRaw_X3 0 rfl rfl 1 (by decide) lkX3_readRaw_15 (fun _ h9 => h9) (.ref q3) rfl dX3_readRaw_57 ?_
        refine a_aload_n C0 dX3_readRaw_60 rfl 0 rfl ?_
        refine a_get C0 inX3_readRaw_X3 0 rfl rfl 0 (by decide) lkX3_readRaw_9 (fun _ h9 => h9) (.ref q1) rfl dX3_readRaw_61 ?_
        refine a_iload C0 dX3_readRaw_64 4 rfl ?_
        refine a_iload C0 dX3_readRaw_66 5 rfl ?_
        refine a_iadd C0 dX3_readRaw_68 ?_
        obtain ⟨r_10, h_11, h⟩ := bd1_e h
        refine a_callVi C0 (wdX3_1 cA q0 q1 q2 q3 q4 q5 f0 f1 f2 f3 f4 f5) (As := [.int (v4 + v5)]) (rest := [.ref q3]) (ctX5_byteAt l D cA q1 q2 (v4 + v5) f1 f2 h_11) (cwV 1 C0.1.2.2.2.2 gX3_readRaw_X5_byteAt rfl rfl rfl hdX5_byteAt ⟨Nat.le_of_ble_eq_true rfl, Nat.le_of_ble_eq_true rfl⟩) [1, 2] [0, 3, 4, 5] [0, 4, 5, 1, 2, 3] rfl rfl rfl rfl (by decide) rfl rfl rfl rfl rfl rfl (Nat.le_of_ble_eq_true rfl) dX3_readRaw_69 ⟨Nat.zero_le _, Nat.zero_le _⟩ ?_
        refine a_iload_n C0 dX3_readRaw_72 rfl 2 rfl ?_
        refine a_iload_n C0 dX3_readRaw_73 rfl 3 rfl ?_
        refine a_iconst C0 (1 : Int32) dX3_readRaw_74 (by decide) ?_
        refine a_icmp_ne C0 82 dX3_readRaw_75 (by decide) (fun c_12 => ?_) (fun c_12 => ?_)
        · have h := ie_ c_12 h
          refine a_iconst C0 (0 : Int32) dX3_readRaw_82 (by decide) ?_
          exact bwX3_readRaw_83 C0 N a1 a2 a3 f1 f2 rc40 hrc40 v4 v5 r_10 a2 (0 : Int32) f0 f3 f4 f5 h
        · have h := it_ c_12 h
          refine a_iconst C0 (1 : Int32) dX3_readRaw_78 (by decide) ?_
          refine a_goto C0 83 dX3_readRaw_79 (by decide) ?_
          exact bwX3_readRaw_83 C0 N a1 a2 a3 f1 f2 rc40 hrc40 v4 v5 r_10 a2 (1 : Int32) f0 f3 f4 f5 h
set_option maxHeartbeats 4000000 in
set_option maxRecDepth 100000 in
theorem bwX3_readRaw_37 {p : Program} {l : Launch} {e : Env} {s : State} {m : MethodId} {args : Array Value} {below : List Frame} {meth : Method} {c : Code} {D : va_G} {A : Nat → Prop} {cA : ClassId} {q0 q1 q2 q3 q4 q5 : Nat} {res : (Nat → Int32) × (Nat → Int32) × (Nat → Int32) × (Nat → Int32)} (C0 : cx p s m args meth c cX3_readRaw 6 RX3 wsX3_readRaw none D vwCl [(cA, .int)] A) (N : Nat) (a1 : Int32) (a2 : Int32) (a3 : Int32) (f1 : Nat → Int32) (f2 : Nat → Int32) (v4 : Int32) (f0 : Nat → Int32) (f3 : Nat → Int32) (f4 : Nat → Int32) (f5 : Nat → Int32) (h : bfX3_readRaw_37 N a1 a2 a3 f1 f2  v4 f0 f3 f4 f5 = some res) : At_ p l e (rmX3_readRaw) s m args below meth c D vwCl A 6 0 0 (Qv_ below args s D vwCl A (wdX3_1 cA q0 q1 q2 q3 q4 q5 res.1 f1 f2 res.2.1 res.2.2.1 res.2.2.2)) 37 [(0, .ref q0), (1, .int a1), (2, .int a2), (3, .int a3), (4, .int v4)] [] (wdX3_1 cA q0 q1 q2 q3 q4 q5 f0 f1 f2 f3 f4 f5) := by
  unfold bfX3_readRaw_37 at h
  refine a_iconst C0 (0 : Int32) dX3_readRaw_37 (by decide) ?_
  refine a_istore C0 [(5, .int (0 : Int32)), (0, .ref q0), (1, .int a1), (2, .int a2), (3, .int a3), (4, .int v4)] dX3_readRaw_38 (by decide) rfl ?_
  refine a_lv [1, 2, 3, 4, 5, 0] (lv' := [(0, .ref q0), (1, .int a1), (2, .int a2), (3, .int a3), (4, .int v4), (5, .int (0 : Int32))]) rfl ?_
  exact bwX3_readRaw_40 C0 N a1 a2 a3 f1 f2 N v4 (0 : Int32) f0 f3 f4 f5 h
set_option maxHeartbeats 4000000 in
set_option maxRecDepth 100000 in
theorem bwX3_readRaw_9 {p : Program} {l : Launch} {e : Env} {s : State} {m : MethodId} {args : Array Value} {below : List Frame} {meth : Method} {c : Code} {D : va_G} {A : Nat → Prop} {cA : ClassId} {q0 q1 q2 q3 q4 q5 : Nat} {res : (Nat → Int32) × (Nat → Int32) × (Nat → Int32) × (Nat → Int32)} (C0 : cx p s m args meth c cX3_readRaw 6 RX3 wsX3_readRaw none D vwCl [(cA, .int)] A) (N : Nat) (a1 : Int32) (a2 : Int32) (a3 : Int32) (f1 : Nat → Int32) (f2 : Nat → Int32) : ∀ (n : Nat) (v4 : Int32) (v5 : Int32) (f0 : Nat → Int32) (f3 : Nat → Int32) (f4 : Nat → Int32) (f5 : Nat → Int32), bfX3_readRaw_9 N a1 a2 a3 f1 f2  n v4 v5 f0 f3 f4 f5 = some res → At_ p l e (rmX3_readRaw) s m args below meth c D vwCl A 6 0 0 (Qv_ below args s D vwCl A (wdX3_1 cA q0 q1 q2 q3 q4 q5 res.1 f1 f2 res.2.1 res.2.2.1 res.2.2.2)) 9 [(0, .ref q0), (1, .int a1), (2, .int a2), (3, .int a3), (4, .int v4), (5, .int v5)] [] (wdX3_1 cA q0 q1 q2 q3 q4 q5 f0 f1 f2 f3 f4 f5) := by
  intro n
  induction n with
  | zero => intro v4 v5 f0 f3 f4 f5 h; cases h
  | succ n hrc9 =>
    intro v4 v5 f0 f3 f4 f5 h
    replace h : bFX3_readRaw_9 N a1 a2 a3 f1 f2  (bfX3_readRaw_9 N a1 a2 a3 f1 f2  n) v4 v5 f0 f3 f4 f5 = some res := h
    generalize bfX3_readRaw_9 N a1 a2 a3 f1 f2  n = rc9 at h hrc9
    unfold bFX3_readRaw_9 at h
    refine a_iload C0 dX3_readRaw_9 5 rfl ?_
    refine a_iload_n C0 dX3_readRaw_11 rfl 1 rfl ?_
    refine a_icmp_ge C0 37 dX3_readRaw_12 (by decide) (fun c_13 => ?_) (fun c_13 => ?_)
    · have h := it_ c_13 h
      refine a_lv [0, 1, 2, 3, 4] (lv' := [(0, .ref q0), (1, .int a1), (2, .int a2), (3, .int a3), (4, .int v4)]) rfl ?_
      exact bwX3_readRaw_37 C0 N a1 a2 a3 f1 f2 v4 f0 f3 f4 f5 h
    · have h := ie_ c_13 h
      refine a_aload_n C0 dX3_readRaw_15 rfl 0 rfl ?_
      refine a_get C0 inX3_readRaw_X3 0 rfl rfl 1 (by decide) lkX3_readRaw_15 (fun _ h9 => h9) (.ref q3) rfl dX3_readRaw_16 ?_
      obtain ⟨r_14, h_15, h⟩ := bd1_e h
      refine a_callVi C0 (wdX3_1 cA q0 q1 q2 q3 q4 q5 f0 f1 f2 f3 f4 f5) (As := []) (rest := []) (ctX0_failed l D cA q3 q4 f3 h_15) (cwV 0 C0.1.2.2.2.2 gX3_readRaw_X0_failed rfl rfl rfl hdX0_failed ⟨Nat.le_of_ble_eq_true rfl, Nat.le_of_ble_eq_true rfl⟩) [3] [0, 1, 2, 4, 5] [0, 1, 2, 5, 3, 4] rfl rfl rfl rfl (by decide) rfl rfl rfl rfl rfl rfl (Nat.le_of_ble_eq_true rfl) dX3_readRaw_19 ⟨Nat.zero_le _, Nat.zero_le _⟩ ?_
      refine a_if_ne C0 37 dX3_readRaw_22 (by decide) (fun c_16 => ?_) (fun c_16 => ?_)
      · have h := ie_ c_16 h
        refine a_lv [0, 1, 2, 3, 4] (lv' := [(0, .ref q0), (1, .int a1), (2, .int a2), (3, .int a3), (4, .int v4)]) rfl ?_
        exact bwX3_readRaw_37 C0 N a1 a2 a3 f1 f2 v4 f0 f3 f4 f5 h
      · have h := it_ c_16 h
        refine a_aload_n C0 dX3_readRaw_25 rfl 0 rfl ?_
        refine a_iload_n C0 dX3_readRaw_26 rfl 3 rfl ?_
        obtain ⟨r_17, f0_18, f3_19, h_20, h⟩ := bd3_e h
        refine a_callVi C0 (wdX3_1 cA q0 q1 q2 q3 q4 q5 f0_18 f1 f2 f3_19 f4 f5) (As := [.int a3]) (rest := []) (ctX3_take l D cA q0 q1 q2 q3 q4 a3 f0 f1 f2 f3 h_20) (cwV 1 C0.1.2.2.2.2 gX3_readRaw_X3_take rfl rfl rfl hdX3_take ⟨Nat.le_of_ble_eq_true rfl, Nat.le_of_ble_eq_true rfl⟩) [0, 1, 2, 3] [4, 5] [2, 3, 4, 5, 0, 1] rfl rfl rfl rfl (by decide) rfl rfl rfl rfl rfl rfl (Nat.le_of_ble_eq_true rfl) dX3_readRaw_27 ⟨Nat.zero_le _, Nat.zero_le _⟩ ?_
        refine a_pop C0 dX3_readRaw_30 rfl ?_
        obtain ⟨x_21, ex_21, h⟩ := lt_e h
        refine a_iinc C0 x_21 [(5, .int x_21), (0, .ref q0), (1, .int a1), (2, .int a2), (3, .int a3), (4, .int v4)] dX3_readRaw_31 5 rfl (by subst ex_21; rfl) (by decide) rfl ?_
        refine a_goto C0 9 dX3_readRaw_34 (by decide) ?_
        refine a_lv [1, 2, 3, 4, 5, 0] (lv' := [(0, .ref q0), (1, .int a1), (2, .int a2), (3, .int a3), (4, .int v4), (5, .int x_21)]) rfl ?_
        exact hrc9 v4 x_21 f0_18 f3_19 f4 f5 h
set_option maxHeartbeats 4000000 in
set_option maxRecDepth 100000 in
theorem bwX3_readRaw {p : Program} {l : Launch} {e : Env} {s : State} {m : MethodId} {args : Array Value} {below : List Frame} {meth : Method} {c : Code} {D : va_G} {A : Nat → Prop} {cA : ClassId} {q0 q1 q2 q3 q4 q5 : Nat} {res : (Nat → Int32) × (Nat → Int32) × (Nat → Int32) × (Nat → Int32)} (C0 : cx p s m args meth c cX3_readRaw 6 RX3 wsX3_readRaw none D vwCl [(cA, .int)] A) (N : Nat) (a1 : Int32) (a2 : Int32) (a3 : Int32) (f0 : Nat → Int32) (f1 : Nat → Int32) (f2 : Nat → Int32) (f3 : Nat → Int32) (f4 : Nat → Int32) (f5 : Nat → Int32) (h : pX3_readRaw N a1 a2 a3 f0 f1 f2 f3 f4 f5 = some res) : At_ p l e (rmX3_readRaw) s m args below meth c D vwCl A 6 0 0 (Qv_ below args s D vwCl A (wdX3_1 cA q0 q1 q2 q3 q4 q5 res.1 f1 f2 res.2.1 res.2.2.1 res.2.2.2)) 0 [(0, .ref q0), (1, .int a1), (2, .int a2), (3, .int a3)] [] (wdX3_1 cA q0 q1 q2 q3 q4 q5 f0 f1 f2 f3 f4 f5) := by
  unfold pX3_readRaw at h
  refine a_aload_n C0 dX3_readRaw_0 rfl 0 rfl ?_
  refine a_get C0 inX3_readRaw_X3 0 rfl rfl 5 (by decide) lkX3_readRaw_30 (fun _ h9 => h9) (.int (f0 5)) rfl dX3_readRaw_1 ?_
  obtain ⟨x_22, ex_22, h⟩ := lt_e h
  refine a_topi ex_22 ?_
  refine a_istore C0 [(4, .int x_22), (0, .ref q0), (1, .int a1), (2, .int a2), (3, .int a3)] dX3_readRaw_4 (by decide) rfl ?_
  refine a_iconst C0 (0 : Int32) dX3_readRaw_6 (by decide) ?_
  refine a_istore C0 [(5, .int (0 : Int32)), (4, .int x_22), (0, .ref q0), (1, .int a1), (2, .int a2), (3, .int a3)] dX3_readRaw_7 (by decide) rfl ?_
  refine a_lv [2, 3, 4, 5, 1, 0] (lv' := [(0, .ref q0), (1, .int a1), (2, .int a2), (3, .int a3), (4, .int x_22), (5, .int (0 : Int32))]) rfl ?_
  exact bwX3_readRaw_9 C0 N a1 a2 a3 f1 f2 N x_22 (0 : Int32) f0 f3 f4 f5 h
set_option maxRecDepth 100000 in
theorem ctX3_readRaw (l : Launch) (D : va_G) (cA : ClassId) (q0 q1 q2 q3 q4 q5 : Nat) (N : Nat) (a1 : Int32) (a2 : Int32) (a3 : Int32) (f0 : Nat → Int32) (f1 : Nat → Int32) (f2 : Nat → Int32) (f3 : Nat → Int32) (f4 : Nat → Int32) (f5 : Nat → Int32) {res : (Nat → Int32) × (Nat → Int32) × (Nat → Int32) × (Nat → Int32)} (h : pX3_readRaw N a1 a2 a3 f0 f1 f2 f3 f4 f5 = some res) : Ctv l yX3_readRaw wsX3_readRaw (rmX3_readRaw) D vwCl [(cA, .int)] [.ref q0, .int a1, .int a2, .int a3] (wdX3_1 cA q0 q1 q2 q3 q4 q5 f0 f1 f2 f3 f4 f5) (wdX3_1 cA q0 q1 q2 q3 q4 q5 res.1 f1 f2 res.2.1 res.2.2.1 res.2.2.2) 0 0 :=
  ct_n (S := Unit) (maxL := 6) (cc := cX3_readRaw) (by decide) rfl (Nat.le_of_ble_eq_true rfl) (fun p e s m below meth c _ C0 => bwX3_readRaw C0 N a1 a2 a3 f0 f1 f2 f3 f4 f5 h)
/-! PackDrawer$PlainReader.giveAgain -/
abbrev rmX3_giveAgain : Room := { frames := 2, cells := 0, slots := 0, locals := 45 }
theorem lkX3_giveAgain_15 : Cond.fieldLink RX3 15 RX3 (TX3 1).2.1 (TX3 1).2.2.1 ∈ wsX3_giveAgain := by decide +kernel
theorem inX3_giveAgain_X3 : ∀ w ∈ u_ws RX3 TX3 6, w ∈ wsX3_giveAgain := by decide +kernel
theorem lkX3_giveAgain_25 : Cond.fieldLink RX3 25 RX3 (TX3 2).2.1 (TX3 2).2.2.1 ∈ wsX3_giveAgain := by decide +kernel
theorem lkX3_giveAgain_9 : Cond.fieldLink RX3 9 RX3 (TX3 0).2.1 (TX3 0).2.2.1 ∈ wsX3_giveAgain := by decide +kernel
theorem nmX3_giveAgain_125 : (RX3, 125, yX6_timesMore, RX6) ∈ nest_M := by decide +kernel
theorem niX3_giveAgain_X6 : Cond.initialized RX6 ∈ wsX3_giveAgain := by decide +kernel
theorem nsX3_giveAgain_X6_timesMore : Cond.static yX6_timesMore ∈ wsX3_giveAgain := by decide +kernel
def bfX3_giveAgain_69 (N : Nat) (a1 : Int32) (a2 : Int32) (a3 : Int32) (f0 : Nat → Int32) (f1 : Nat → Int32) (f2 : Nat → Int32) (rc26 : Int32 → Int32 → (Nat → Int32) → (Nat → Int32) → (Nat → Int32) → Option ((Nat → Int32) × (Nat → Int32) × (Nat → Int32))) (v4 : Int32) (v5 : Int32) (s1 : Int32) (s2 : Int32) (s3 : Int32) (f3 : Nat → Int32) (f4 : Nat → Int32) (f5 : Nat → Int32) : Option ((Nat → Int32) × (Nat → Int32) × (Nat → Int32)) := bd3 (pX0_give s1 s2 s3 f3 f4 f5) (fun f3_1 f4_2 f5_3 => lt_ ((v5 + (1 : Int32))) (fun x_5 => rc26 v4 x_5 f3_1 f4_2 f5_3))
def bFX3_giveAgain_26 (N : Nat) (a1 : Int32) (a2 : Int32) (a3 : Int32) (f0 : Nat → Int32) (f1 : Nat → Int32) (f2 : Nat → Int32) (rc26 : Int32 → Int32 → (Nat → Int32) → (Nat → Int32) → (Nat → Int32) → Option ((Nat → Int32) × (Nat → Int32) × (Nat → Int32))) (v4 : Int32) (v5 : Int32) (f3 : Nat → Int32) (f4 : Nat → Int32) (f5 : Nat → Int32) : Option ((Nat → Int32) × (Nat → Int32) × (Nat → Int32)) := if v4 ≤ v5 then some (f3, f4, f5) else bd1 (pX0_failed f3) (fun r_7 => if r_7 = 0 then bd1 (pX4_byteAt (a2 + v5) f4 f5) (fun r_10 => if a3 = (1 : Int32) then bfX3_giveAgain_69 N a1 a2 a3 f0 f1 f2 rc26 v4 v5 r_10 a1 (1 : Int32) f3 f4 f5 else bfX3_giveAgain_69 N a1 a2 a3 f0 f1 f2 rc26 v4 v5 r_10 a1 (0 : Int32) f3 f4 f5) else some (f3, f4, f5))
def bfX3_giveAgain_26 (N : Nat) (a1 : Int32) (a2 : Int32) (a3 : Int32) (f0 : Nat → Int32) (f1 : Nat → Int32) (f2 : Nat → Int32) : Nat → Int32 → Int32 → (Nat → Int32) → (Nat → Int32) → (Nat → Int32) → Option ((Nat → Int32) × (Nat → Int32) × (Nat → Int32))
  | 0 => fun _ _ _ _ _ => none
  | n + 1 => bFX3_giveAgain_26 N a1 a2 a3 f0 f1 f2  (bfX3_giveAgain_26 N a1 a2 a3 f0 f1 f2  n)
def pX3_giveAgain (N : Nat) (a1 : Int32) (a2 : Int32) (a3 : Int32) (f0 : Nat → Int32) (f1 : Nat → Int32) (f2 : Nat → Int32) (f3 : Nat → Int32) (f4 : Nat → Int32) (f5 : Nat → Int32) : Option ((Nat → Int32) × (Nat → Int32) × (Nat → Int32)) := bd1 (pX4_top f4) (fun r_13 => bd1 (pX5_byteAt a1 f1 f2) (fun r_15 => bd1 (pX6_timesMore r_15) (fun r_17 => lt_ (((r_13 - a2) * r_17)) (fun x_19 => bfX3_giveAgain_26 N a1 a2 a3 f0 f1 f2 N x_19 (0 : Int32) f3 f4 f5))))
set_option maxHeartbeats 4000000 in
set_option maxRecDepth 100000 in
theorem bwX3_giveAgain_69 {p : Program} {l : Launch} {e : Env} {s : State} {m : MethodId} {args : Array Value} {below : List Frame} {meth : Method} {c : Code} {D : va_G} {A : Nat → Prop} {cA : ClassId} {q0 q1 q2 q3 q4 q5 : Nat} {res : (Nat → Int32) × (Nat → Int32) × (Nat → Int32)} (C0 : cx p s m args meth c cX3_giveAgain 6 RX3 wsX3_giveAgain none D vwCl [(cA, .int)] A) (N : Nat) (a1 : Int32) (a2 : Int32) (a3 : Int32) (f0 : Nat → Int32) (f1 : Nat → Int32) (f2 : Nat → Int32) (rc26 : Int32 → Int32 → (Nat → Int32) → (Nat → Int32) → (Nat → Int32) → Option ((Nat → Int32) × (Nat → Int32) × (Nat → Int32))) (hrc26 : ∀ (v4 : Int32) (v5 : Int32) (f3 : Nat → Int32) (f4 : Nat → Int32) (f5 : Nat → Int32), rc26 v4 v5 f3 f4 f5 = some res → At_ p l e (rmX3_giveAgain) s m args below meth c D vwCl A 6 0 0 (Qv_ below args s D vwCl A (wdX3_1 cA q0 q1 q2 q3 q4 q5 f0 f1 f2 res.1 res.2.1 res.2.2)) 26 [(0, .ref q0), (1, .int a1), (2, .int a2), (3, .int a3), (4, .int v4), (5, .int v5)] [] (wdX3_1 cA q0 q1 q2 q3 q4 q5 f0 f1 f2 f3 f4 f5)) (v4 : Int32) (v5 : Int32) (s1 : Int32) (s2 : Int32) (s3 : Int32) (f3 : Nat → Int32) (f4 : Nat → Int32) (f5 : Nat → Int32) (h : bfX3_giveAgain_69 N a1 a2 a3 f0 f1 f2 rc26 v4 v5 s1 s2 s3 f3 f4 f5 = some res) : At_ p l e (rmX3_giveAgain) s m args below meth c D vwCl A 6 0 0 (Qv_ below args s D vwCl A (wdX3_1 cA q0 q1 q2 q3 q4 q5 f0 f1 f2 res.1 res.2.1 res.2.2)) 69 [(0, .ref q0), (1, .int a1), (2, .int a2), (3, .int a3), (4, .int v4), (5, .int v5)] [.int s3, .int s2, .int s1, .ref q3] (wdX3_1 cA q0 q1 q2 q3 q4 q5 f0 f1 f2 f3 f4 f5) := by
  unfold bfX3_giveAgain_69 at h
  obtain ⟨f3_1, f4_2, f5_3, h_4, h⟩ := bd3_e h
  refine a_callVv C0 (wdX3_1 cA q0 q1 q2 q3 q4 q5 f0 f1 f2 f3_1 f4_2 f5_3) (As := [.int s1, .int s2, .int s3]) (rest := []) (ctX0_give l D cA q3 q4 q5 s1 s2 s3 f3 f4 f5 h_4) (cwV 3 C0.1.2.2.2.2 gX3_giveAgain_X0_give rfl rfl rfl hdX0_give ⟨Nat.le_of_ble_eq_true rfl, Nat.le_of_ble_eq_true rfl⟩) [3, 4, 5] [0, 1, 2] [0, 1, 2, 3, 4, 5] rfl rfl rfl rfl (by decide) rfl rfl rfl rfl rfl rfl (Nat.le_of_ble_eq_true rfl) dX3_giveAgain_69 ⟨Nat.zero_le _, Nat.zero_le _⟩ ?_
  obtain ⟨x_5, ex_5, h⟩ := lt_e h
  refine a_iinc C0 x_5 [(5, .int x_5), (0, .ref q0), (1, .int a1), (2, .int a2), (3, .int a3), (4, .int v4)] dX3_giveAgain_72 5 rfl (by subst ex_5; rfl) (by decide) rfl ?_
  refine a_goto C0 26 dX3_giveAgain_75 (by decide) ?_
  refine a_lv [1, 2, 3, 4, 5, 0] (lv' := [(0, .ref q0), (1, .int a1), (2, .int a2), (3, .int a3), (4, .int v4), (5, .int x_5)]) rfl ?_
  exact hrc26 v4 x_5 f3_1 f4_2 f5_3 h
set_option maxHeartbeats 4000000 in
set_option maxRecDepth 100000 in
theorem bwX3_giveAgain_26 {p : Program} {l : Launch} {e : Env} {s : State} {m : MethodId} {args : Array Value} {below : List Frame} {meth : Method} {c : Code} {D : va_G} {A : Nat → Prop} {cA : ClassId} {q0 q1 q2 q3 q4 q5 : Nat} {res : (Nat → Int32) × (Nat → Int32) × (Nat → Int32)} (C0 : cx p s m args meth c cX3_giveAgain 6 RX3 wsX3_giveAgain none D vwCl [(cA, .int)] A) (N : Nat) (a1 : Int32) (a2 : Int32) (a3 : Int32) (f0 : Nat → Int32) (f1 : Nat → Int32) (f2 : Nat → Int32) : ∀ (n : Nat) (v4 : Int32) (v5 : Int32) (f3 : Nat → Int32) (f4 : Nat → Int32) (f5 : Nat → Int32), bfX3_giveAgain_26 N a1 a2 a3 f0 f1 f2  n v4 v5 f3 f4 f5 = some res → At_ p l e (rmX3_giveAgain) s m args below meth c D vwCl A 6 0 0 (Qv_ below args s D vwCl A (wdX3_1 cA q0 q1 q2 q3 q4 q5 f0 f1 f2 res.1 res.2.1 res.2.2)) 26 [(0, .ref q0), (1, .int a1), (2, .int a2), (3, .int a3), (4, .int v4), (5, .int v5)] [] (wdX3_1 cA q0 q1 q2 q3 q4 q5 f0 f1 f2 f3 f4 f5) := by
  intro n
  induction n with
  | zero => intro v4 v5 f3 f4 f5 h; cases h
  | succ n hrc26 =>
    intro v4 v5 f3 f4 f5 h
    replace h : bFX3_giveAgain_26 N a1 a2 a3 f0 f1 f2  (bfX3_giveAgain_26 N a1 a2 a3 f0 f1 f2  n) v4 v5 f3 f4 f5 = some res := h
    generalize bfX3_giveAgain_26 N a1 a2 a3 f0 f1 f2  n = rc26 at h hrc26
    unfold bFX3_giveAgain_26 at h
    refine a_iload C0 dX3_giveAgain_26 5 rfl ?_
    refine a_iload C0 dX3_giveAgain_28 4 rfl ?_
    refine a_icmp_ge C0 78 dX3_giveAgain_30 (by decide) (fun c_6 => ?_) (fun c_6 => ?_)
    · have h := it_ c_6 h
      obtain rfl := Option.some.inj h
      exact a_vret C0 dX3_giveAgain_78 rfl
    · have h := ie_ c_6 h
      refine a_aload_n C0 dX3_giveAgain_33 rfl 0 rfl ?_
      refine a_get C0 inX3_giveAgain_X3 0 rfl rfl 1 (by decide) lkX3_giveAgain_15 (fun _ h9 => h9) (.ref q3) rfl dX3_giveAgain_34 ?_
      obtain ⟨r_7, h_8, h⟩ := bd1_e h
      refine a_callVi C0 (wdX3_1 cA q0 q1 q2 q3 q4 q5 f0 f1 f2 f3 f4 f5) (As := []) (rest := []) (ctX0_failed l D cA q3 q4 f3 h_8) (cwV 0 C0.1.2.2.2.2 gX3_giveAgain_X0_failed rfl rfl rfl hdX0_failed ⟨Nat.le_of_ble_eq_true rfl, Nat.le_of_ble_eq_true rfl⟩) [3] [0, 1, 2, 4, 5] [0, 1, 2, 5, 3, 4] rfl rfl rfl rfl (by decide) rfl rfl rfl rfl rfl rfl (Nat.le_of_ble_eq_true rfl) dX3_giveAgain_37 ⟨Nat.zero_le _, Nat.zero_le _⟩ ?_
      refine a_if_ne C0 78 dX3_giveAgain_40 (by decide) (fun c_9 => ?_) (fun c_9 => ?_)
      · have h := ie_ c_9 h
        obtain rfl := Option.some.inj h
        exact a_vret C0 dX3_giveAgain_78 rfl
      · have h := it_ c_9 h
        refine a_aload_n C0 dX3_giveAgain_43 rfl 0 rfl ?_
        refine a_get C0 inX3_giveAgain_X3 0 rfl rfl 1 (by decide) lkX3_giveAgain_15 (fun _ h9 => h9) (.ref q3) rfl dX3_giveAgain_44 ?_
        refine a_aload_n C0 dX3_giveAgain_47 rfl 0 rfl ?_
        refine a_get C0 inX3_giveAgain_X3 0 rfl rfl 2 (by decide) lkX3_giveAgain_25 (fun _ h9 => h9) (.ref q4) rfl dX3_giveAgain_48 ?_
        refine a_iload_n C0 dX3_giveAgain_51 rfl 2 rfl ?_
        refine a_iload C0 dX3_giveAgain_52 5 rfl ?_
        refine a_iadd C0 dX3_giveAgain_54 ?_
        obtain ⟨r_10, h_11, h⟩ := bd1_e h
        refine a_callVi C0 (wdX3_1 cA q0 q1 q2 q3 q4 q5 f0 f1 f2 f3 f4 f5) (As := [.int (a2 + v5)]) (rest := [.ref q3]) (ctX4_byteAt l D cA q4 q5 (a2 + v5) f4 f5 h_11) (cwV 1 C0.1.2.2.2.2 gX3_giveAgain_X4_byteAt rfl rfl rfl hdX4_byteAt ⟨Nat.le_of_ble_eq_true rfl, Nat.le_of_ble_eq_true rfl⟩) [4, 5] [0, 1, 2, 3] [0, 1, 2, 3, 4, 5] rfl rfl rfl rfl (by decide) rfl rfl rfl rfl rfl rfl (Nat.le_of_ble_eq_true rfl) dX3_giveAgain_55 ⟨Nat.zero_le _, Nat.zero_le _⟩ ?_
        refine a_iload_n C0 dX3_giveAgain_58 rfl 1 rfl ?_
        refine a_iload_n C0 dX3_giveAgain_59 rfl 3 rfl ?_
        refine a_iconst C0 (1 : Int32) dX3_giveAgain_60 (by decide) ?_
        refine a_icmp_ne C0 68 dX3_giveAgain_61 (by decide) (fun c_12 => ?_) (fun c_12 => ?_)
        · have h := ie_ c_12 h
          refine a_iconst C0 (0 : Int32) dX3_giveAgain_68 (by decide) ?_
          exact bwX3_giveAgain_69 C0 N a1 a2 a3 f0 f1 f2 rc26 hrc26 v4 v5 r_10 a1 (0 : Int32) f3 f4 f5 h
        · have h := it_ c_12 h
          refine a_iconst C0 (1 : Int32) dX3_giveAgain_64 (by decide) ?_
          refine a_goto C0 69 dX3_giveAgain_65 (by decide) ?_
          exact bwX3_giveAgain_69 C0 N a1 a2 a3 f0 f1 f2 rc26 hrc26 v4 v5 r_10 a1 (1 : Int32) f3 f4 f5 h
set_option maxHeartbeats 4000000 in
set_option maxRecDepth 100000 in
theorem bwX3_giveAgain {p : Program} {l : Launch} {e : Env} {s : State} {m : MethodId} {args : Array Value} {below : List Frame} {meth : Method} {c : Code} {D : va_G} {A : Nat → Prop} {cA : ClassId} {q0 q1 q2 q3 q4 q5 : Nat} {res : (Nat → Int32) × (Nat → Int32) × (Nat → Int32)} (C0 : cx p s m args meth c cX3_giveAgain 6 RX3 wsX3_giveAgain none D vwCl [(cA, .int)] A) (N : Nat) (a1 : Int32) (a2 : Int32) (a3 : Int32) (f0 : Nat → Int32) (f1 : Nat → Int32) (f2 : Nat → Int32) (f3 : Nat → Int32) (f4 : Nat → Int32) (f5 : Nat → Int32) (h : pX3_giveAgain N a1 a2 a3 f0 f1 f2 f3 f4 f5 = some res) : At_ p l e (rmX3_giveAgain) s m args below meth c D vwCl A 6 0 0 (Qv_ below args s D vwCl A (wdX3_1 cA q0 q1 q2 q3 q4 q5 f0 f1 f2 res.1 res.2.1 res.2.2)) 0 [(0, .ref q0), (1, .int a1), (2, .int a2), (3, .int a3)] [] (wdX3_1 cA q0 q1 q2 q3 q4 q5 f0 f1 f2 f3 f4 f5) := by
  unfold pX3_giveAgain at h
  refine a_aload_n C0 dX3_giveAgain_0 rfl 0 rfl ?_
  refine a_get C0 inX3_giveAgain_X3 0 rfl rfl 2 (by decide) lkX3_giveAgain_25 (fun _ h9 => h9) (.ref q4) rfl dX3_giveAgain_1 ?_
  obtain ⟨r_13, h_14, h⟩ := bd1_e h
  refine a_callVi C0 (wdX3_1 cA q0 q1 q2 q3 q4 q5 f0 f1 f2 f3 f4 f5) (As := []) (rest := []) (ctX4_top l D cA q4 q5 f4 h_14) (cwV 0 C0.1.2.2.2.2 gX3_giveAgain_X4_top rfl rfl rfl hdX4_top ⟨Nat.le_of_ble_eq_true rfl, Nat.le_of_ble_eq_true rfl⟩) [4] [0, 1, 2, 3, 5] [0, 1, 2, 3, 5, 4] rfl rfl rfl rfl (by decide) rfl rfl rfl rfl rfl rfl (Nat.le_of_ble_eq_true rfl) dX3_giveAgain_4 ⟨Nat.zero_le _, Nat.zero_le _⟩ ?_
  refine a_iload_n C0 dX3_giveAgain_7 rfl 2 rfl ?_
  refine a_isub C0 dX3_giveAgain_8 ?_
  refine a_aload_n C0 dX3_giveAgain_9 rfl 0 rfl ?_
  refine a_get C0 inX3_giveAgain_X3 0 rfl rfl 0 (by decide) lkX3_giveAgain_9 (fun _ h9 => h9) (.ref q1) rfl dX3_giveAgain_10 ?_
  refine a_iload_n C0 dX3_giveAgain_13 rfl 1 rfl ?_
  obtain ⟨r_15, h_16, h⟩ := bd1_e h
  refine a_callVi C0 (wdX3_1 cA q0 q1 q2 q3 q4 q5 f0 f1 f2 f3 f4 f5) (As := [.int a1]) (rest := [.int (r_13 - a2)]) (ctX5_byteAt l D cA q1 q2 a1 f1 f2 h_16) (cwV 1 C0.1.2.2.2.2 gX3_giveAgain_X5_byteAt rfl rfl rfl hdX5_byteAt ⟨Nat.le_of_ble_eq_true rfl, Nat.le_of_ble_eq_true rfl⟩) [1, 2] [0, 3, 4, 5] [0, 4, 5, 1, 2, 3] rfl rfl rfl rfl (by decide) rfl rfl rfl rfl rfl rfl (Nat.le_of_ble_eq_true rfl) dX3_giveAgain_14 ⟨Nat.zero_le _, Nat.zero_le _⟩ ?_
  obtain ⟨r_17, h_18, h⟩ := bd1_e h
  refine a_callSNi C0 (wdX3_1 cA q0 q1 q2 q3 q4 q5 f0 f1 f2 f3 f4 f5) (As := [.int r_15]) (rest := [.int (r_13 - a2)]) (ctX6_timesMore l D cA r_15 h_18) ⟨va_cnB 1 C0.1.2.2.2.2 gX3_giveAgain_X6_timesMore_n125 rfl rfl rfl (C0.2.2.2.1.2.2 (RX3, 125, yX6_timesMore, RX6) nmX3_giveAgain_125) (C0.1.2.2.2.2 (.initialized RX6) niX3_giveAgain_X6) hdX6_timesMore.2 ⟨Nat.le_of_ble_eq_true rfl, Nat.le_of_ble_eq_true rfl⟩, (C0.1.2.2.2.2 (.static yX6_timesMore) nsX3_giveAgain_X6_timesMore), trivial⟩ [] [0, 1, 2, 3, 4, 5] [0, 1, 2, 3, 4, 5] rfl rfl rfl rfl (by decide) rfl rfl rfl rfl (Nat.le_of_ble_eq_true rfl) dX3_giveAgain_17 ⟨Nat.zero_le _, Nat.zero_le _⟩ ?_
  refine a_imul C0 dX3_giveAgain_20 ?_
  obtain ⟨x_19, ex_19, h⟩ := lt_e h
  refine a_topi ex_19 ?_
  refine a_istore C0 [(4, .int x_19), (0, .ref q0), (1, .int a1), (2, .int a2), (3, .int a3)] dX3_giveAgain_21 (by decide) rfl ?_
  refine a_iconst C0 (0 : Int32) dX3_giveAgain_23 (by decide) ?_
  refine a_istore C0 [(5, .int (0 : Int32)), (4, .int x_19), (0, .ref q0), (1, .int a1), (2, .int a2), (3, .int a3)] dX3_giveAgain_24 (by decide) rfl ?_
  refine a_lv [2, 3, 4, 5, 1, 0] (lv' := [(0, .ref q0), (1, .int a1), (2, .int a2), (3, .int a3), (4, .int x_19), (5, .int (0 : Int32))]) rfl ?_
  exact bwX3_giveAgain_26 C0 N a1 a2 a3 f0 f1 f2 N x_19 (0 : Int32) f3 f4 f5 h
set_option maxRecDepth 100000 in
theorem ctX3_giveAgain (l : Launch) (D : va_G) (cA : ClassId) (q0 q1 q2 q3 q4 q5 : Nat) (N : Nat) (a1 : Int32) (a2 : Int32) (a3 : Int32) (f0 : Nat → Int32) (f1 : Nat → Int32) (f2 : Nat → Int32) (f3 : Nat → Int32) (f4 : Nat → Int32) (f5 : Nat → Int32) {res : (Nat → Int32) × (Nat → Int32) × (Nat → Int32)} (h : pX3_giveAgain N a1 a2 a3 f0 f1 f2 f3 f4 f5 = some res) : Ctv l yX3_giveAgain wsX3_giveAgain (rmX3_giveAgain) D vwCl [(cA, .int)] [.ref q0, .int a1, .int a2, .int a3] (wdX3_1 cA q0 q1 q2 q3 q4 q5 f0 f1 f2 f3 f4 f5) (wdX3_1 cA q0 q1 q2 q3 q4 q5 f0 f1 f2 res.1 res.2.1 res.2.2) 0 0 :=
  ct_n (S := Unit) (maxL := 6) (cc := cX3_giveAgain) (by decide) rfl (Nat.le_of_ble_eq_true rfl) (fun p e s m below meth c _ C0 => bwX3_giveAgain C0 N a1 a2 a3 f0 f1 f2 f3 f4 f5 h)
/-! PackDrawer$PlainReader.readWide -/
theorem hdX3_readRaw : yX3_readRaw.cls = RX3 ∧ yX3_readRaw.cls ≠ "java/lang/invoke/MethodHandle" ∧ yX3_readRaw.cls ≠ "java/lang/invoke/VarHandle" ∧ (parseMethodDescriptor yX3_readRaw.desc).map (fun d => d.parameters.length) = some 3 := by decide +kernel
abbrev rmX3_readWide : Room := { frames := 4, cells := 0, slots := 0, locals := 88 }
def pX3_readWide (N : Nat) (a1 : Int32) (a2 : Int32) (f0 : Nat → Int32) (f1 : Nat → Int32) (f2 : Nat → Int32) (f3 : Nat → Int32) (f4 : Nat → Int32) (f5 : Nat → Int32) : Option ((Nat → Int32) × (Nat → Int32) × (Nat → Int32) × (Nat → Int32)) := bd3 (pX3_take a2 f0 f1 f2 f3) (fun r_1 f0_2 f3_3 => bd3 (pX3_take a2 f0_2 f1 f2 f3_3) (fun r_5 f0_6 f3_7 => bd4 (pX3_readRaw N ((r_1 * (256 : Int32)) + r_5) a1 a2 f0_6 f1 f2 f3_7 f4 f5) (fun f0_9 f3_10 f4_11 f5_12 => some (f0_9, f3_10, f4_11, f5_12))))
set_option maxHeartbeats 4000000 in
set_option maxRecDepth 100000 in
theorem bwX3_readWide {p : Program} {l : Launch} {e : Env} {s : State} {m : MethodId} {args : Array Value} {below : List Frame} {meth : Method} {c : Code} {D : va_G} {A : Nat → Prop} {cA : ClassId} {q0 q1 q2 q3 q4 q5 : Nat} {res : (Nat → Int32) × (Nat → Int32) × (Nat → Int32) × (Nat → Int32)} (C0 : cx p s m args meth c cX3_readWide 5 RX3 wsX3_readWide none D vwCl [(cA, .int)] A) (N : Nat) (a1 : Int32) (a2 : Int32) (f0 : Nat → Int32) (f1 : Nat → Int32) (f2 : Nat → Int32) (f3 : Nat → Int32) (f4 : Nat → Int32) (f5 : Nat → Int32) (h : pX3_readWide N a1 a2 f0 f1 f2 f3 f4 f5 = some res) : At_ p l e (rmX3_readWide) s m args below meth c D vwCl A 5 0 0 (Qv_ below args s D vwCl A (wdX3_1 cA q0 q1 q2 q3 q4 q5 res.1 f1 f2 res.2.1 res.2.2.1 res.2.2.2)) 0 [(0, .ref q0), (1, .int a1), (2, .int a2)] [] (wdX3_1 cA q0 q1 q2 q3 q4 q5 f0 f1 f2 f3 f4 f5) := by
  unfold pX3_readWide at h
  refine a_aload_n C0 dX3_readWide_0 rfl 0 rfl ?_
  refine a_iload_n C0 dX3_readWide_1 rfl 2 rfl ?_
  obtain ⟨r_1, f0_2, f3_3, h_4, h⟩ := bd3_e h
  refine a_callVi C0 (wdX3_1 cA q0 q1 q2 q3 q4 q5 f0_2 f1 f2 f3_3 f4 f5) (As := [.int a2]) (rest := []) (ctX3_take l D cA q0 q1 q2 q3 q4 a2 f0 f1 f2 f3 h_4) (cwV 1 C0.1.2.2.2.2 gX3_readWide_X3_take rfl rfl rfl hdX3_take ⟨Nat.le_of_ble_eq_true rfl, Nat.le_of_ble_eq_true rfl⟩) [0, 1, 2, 3] [4, 5] [2, 3, 4, 5, 0, 1] rfl rfl rfl rfl (by decide) rfl rfl rfl rfl rfl rfl (Nat.le_of_ble_eq_true rfl) dX3_readWide_2 ⟨Nat.zero_le _, Nat.zero_le _⟩ ?_
  refine a_istore_n C0 [(3, .int r_1), (0, .ref q0), (1, .int a1), (2, .int a2)] dX3_readWide_5 rfl (by decide) rfl ?_
  refine a_aload_n C0 dX3_readWide_6 rfl 1 rfl ?_
  refine a_iload_n C0 dX3_readWide_7 rfl 3 rfl ?_
  obtain ⟨r_5, f0_6, f3_7, h_8, h⟩ := bd3_e h
  refine a_callVi C0 (wdX3_1 cA q0 q1 q2 q3 q4 q5 f0_6 f1 f2 f3_7 f4 f5) (As := [.int a2]) (rest := []) (ctX3_take l D cA q0 q1 q2 q3 q4 a2 f0_2 f1 f2 f3_3 h_8) (cwV 1 C0.1.2.2.2.2 gX3_readWide_X3_take rfl rfl rfl hdX3_take ⟨Nat.le_of_ble_eq_true rfl, Nat.le_of_ble_eq_true rfl⟩) [0, 1, 2, 3] [4, 5] [2, 3, 4, 5, 0, 1] rfl rfl rfl rfl (by decide) rfl rfl rfl rfl rfl rfl (Nat.le_of_ble_eq_true rfl) dX3_readWide_8 ⟨Nat.zero_le _, Nat.zero_le _⟩ ?_
  refine a_istore C0 [(4, .int r_5), (3, .int r_1), (0, .ref q0), (1, .int a1), (2, .int a2)] dX3_readWide_11 (by decide) rfl ?_
  refine a_aload_n C0 dX3_readWide_13 rfl 2 rfl ?_
  refine a_iload_n C0 dX3_readWide_14 rfl 1 rfl ?_
  refine a_sipush C0 (256 : Int32) dX3_readWide_15 (by decide) ?_
  refine a_imul C0 dX3_readWide_18 ?_
  refine a_iload C0 dX3_readWide_19 0 rfl ?_
  refine a_iadd C0 dX3_readWide_21 ?_
  refine a_iload_n C0 dX3_readWide_22 rfl 3 rfl ?_
  refine a_iload_n C0 dX3_readWide_23 rfl 4 rfl ?_
  obtain ⟨f0_9, f3_10, f4_11, f5_12, h_13, h⟩ := bd4_e h
  refine a_callVv C0 (wdX3_1 cA q0 q1 q2 q3 q4 q5 f0_9 f1 f2 f3_10 f4_11 f5_12) (As := [.int ((r_1 * (256 : Int32)) + r_5), .int a1, .int a2]) (rest := []) (ctX3_readRaw l D cA q0 q1 q2 q3 q4 q5 N ((r_1 * (256 : Int32)) + r_5) a1 a2 f0_6 f1 f2 f3_7 f4 f5 h_13) (cwV 3 C0.1.2.2.2.2 gX3_readWide_X3_readRaw rfl rfl rfl hdX3_readRaw ⟨Nat.le_of_ble_eq_true rfl, Nat.le_of_ble_eq_true rfl⟩) [0, 1, 2, 3, 4, 5] [] [0, 1, 2, 3, 4, 5] rfl rfl rfl rfl (by decide) rfl rfl rfl rfl rfl rfl (Nat.le_of_ble_eq_true rfl) dX3_readWide_24 ⟨Nat.zero_le _, Nat.zero_le _⟩ ?_
  obtain rfl := Option.some.inj h
  exact a_vret C0 dX3_readWide_27 rfl
set_option maxRecDepth 100000 in
theorem ctX3_readWide (l : Launch) (D : va_G) (cA : ClassId) (q0 q1 q2 q3 q4 q5 : Nat) (N : Nat) (a1 : Int32) (a2 : Int32) (f0 : Nat → Int32) (f1 : Nat → Int32) (f2 : Nat → Int32) (f3 : Nat → Int32) (f4 : Nat → Int32) (f5 : Nat → Int32) {res : (Nat → Int32) × (Nat → Int32) × (Nat → Int32) × (Nat → Int32)} (h : pX3_readWide N a1 a2 f0 f1 f2 f3 f4 f5 = some res) : Ctv l yX3_readWide wsX3_readWide (rmX3_readWide) D vwCl [(cA, .int)] [.ref q0, .int a1, .int a2] (wdX3_1 cA q0 q1 q2 q3 q4 q5 f0 f1 f2 f3 f4 f5) (wdX3_1 cA q0 q1 q2 q3 q4 q5 res.1 f1 f2 res.2.1 res.2.2.1 res.2.2.2) 0 0 :=
  ct_n (S := Unit) (maxL := 5) (cc := cX3_readWide) (by decide) rfl (Nat.le_of_ble_eq_true rfl) (fun p e s m below meth c _ C0 => bwX3_readWide C0 N a1 a2 f0 f1 f2 f3 f4 f5 h)
/-! PackDrawer$PlainReader.giveInner -/
abbrev wdX3_2 (cA : ClassId) (q0 q1 q3 q4 q5 : Nat) (f0 : Nat → Int32) (f3 : Nat → Int32) (f4 : Nat → Int32) (f5 : Nat → Int32) : va_W := [(q0, .inr (3, [.ref q1, .ref q3, .ref q4, .int (f0 3), .int (f0 4), .int (f0 5)])), (q3, .inr (0, [.ref q4, .int (f3 1), .int (f3 2), .int (f3 3), .int (f3 4), .int (f3 5), .int (f3 6), .int (f3 7), .int (f3 8), .int (f3 9), .int (f3 10), .int (f3 11)])), (q4, .inr (4, [.ref q5, .int (f4 1)])), (q5, .inl (cA, 800, .inl f5))]
abbrev rmX3_giveInner : Room := { frames := 2, cells := 0, slots := 0, locals := 45 }
theorem lkX3_giveInner_15 : Cond.fieldLink RX3 15 RX3 (TX3 1).2.1 (TX3 1).2.2.1 ∈ wsX3_giveInner := by decide +kernel
theorem inX3_giveInner_X3 : ∀ w ∈ u_ws RX3 TX3 6, w ∈ wsX3_giveInner := by decide +kernel
theorem lkX3_giveInner_25 : Cond.fieldLink RX3 25 RX3 (TX3 2).2.1 (TX3 2).2.2.1 ∈ wsX3_giveInner := by decide +kernel
def bfX3_giveInner_65 (N : Nat) (a1 : Int32) (a2 : Int32) (a3 : Int32) (f0 : Nat → Int32) (rc22 : Int32 → Int32 → (Nat → Int32) → (Nat → Int32) → (Nat → Int32) → Option ((Nat → Int32) × (Nat → Int32) × (Nat → Int32))) (v4 : Int32) (v5 : Int32) (s1 : Int32) (s2 : Int32) (s3 : Int32) (f3 : Nat → Int32) (f4 : Nat → Int32) (f5 : Nat → Int32) : Option ((Nat → Int32) × (Nat → Int32) × (Nat → Int32)) := bd3 (pX0_give s1 s2 s3 f3 f4 f5) (fun f3_1 f4_2 f5_3 => lt_ ((v5 + (1 : Int32))) (fun x_5 => rc22 v4 x_5 f3_1 f4_2 f5_3))
def bfX3_giveInner_74 (N : Nat) (a1 : Int32) (a2 : Int32) (a3 : Int32) (f0 : Nat → Int32) (v4 : Int32) (f3 : Nat → Int32) (f4 : Nat → Int32) (f5 : Nat → Int32) : Option ((Nat → Int32) × (Nat → Int32) × (Nat → Int32)) := bd1 (pX0_release v4 f3) (fun f3_6 => some (f3_6, f4, f5))
def bFX3_giveInner_22 (N : Nat) (a1 : Int32) (a2 : Int32) (a3 : Int32) (f0 : Nat → Int32) (rc22 : Int32 → Int32 → (Nat → Int32) → (Nat → Int32) → (Nat → Int32) → Option ((Nat → Int32) × (Nat → Int32) × (Nat → Int32))) (v4 : Int32) (v5 : Int32) (f3 : Nat → Int32) (f4 : Nat → Int32) (f5 : Nat → Int32) : Option ((Nat → Int32) × (Nat → Int32) × (Nat → Int32)) := if v4 ≤ v5 then bfX3_giveInner_74 N a1 a2 a3 f0 v4 f3 f4 f5 else bd1 (pX0_failed f3) (fun r_9 => if r_9 = 0 then bd1 (pX4_byteAt (a1 + v5) f4 f5) (fun r_12 => if a3 = (1 : Int32) then bfX3_giveInner_65 N a1 a2 a3 f0 rc22 v4 v5 r_12 a2 (1 : Int32) f3 f4 f5 else bfX3_giveInner_65 N a1 a2 a3 f0 rc22 v4 v5 r_12 a2 (0 : Int32) f3 f4 f5) else bfX3_giveInner_74 N a1 a2 a3 f0 v4 f3 f4 f5)
def bfX3_giveInner_22 (N : Nat) (a1 : Int32) (a2 : Int32) (a3 : Int32) (f0 : Nat → Int32) : Nat → Int32 → Int32 → (Nat → Int32) → (Nat → Int32) → (Nat → Int32) → Option ((Nat → Int32) × (Nat → Int32) × (Nat → Int32))
  | 0 => fun _ _ _ _ _ => none
  | n + 1 => bFX3_giveInner_22 N a1 a2 a3 f0  (bfX3_giveInner_22 N a1 a2 a3 f0  n)
def pX3_giveInner (N : Nat) (a1 : Int32) (a2 : Int32) (a3 : Int32) (f0 : Nat → Int32) (f3 : Nat → Int32) (f4 : Nat → Int32) (f5 : Nat → Int32) : Option ((Nat → Int32) × (Nat → Int32) × (Nat → Int32)) := bd1 (pX4_top f4) (fun r_15 => lt_ ((r_15 - a1)) (fun x_17 => bd1 (pX4_backTo a1 f4) (fun f4_18 => bfX3_giveInner_22 N a1 a2 a3 f0 N x_17 (0 : Int32) f3 f4_18 f5)))
set_option maxHeartbeats 4000000 in
set_option maxRecDepth 100000 in
theorem bwX3_giveInner_65 {p : Program} {l : Launch} {e : Env} {s : State} {m : MethodId} {args : Array Value} {below : List Frame} {meth : Method} {c : Code} {D : va_G} {A : Nat → Prop} {cA : ClassId} {q0 q1 q3 q4 q5 : Nat} {res : (Nat → Int32) × (Nat → Int32) × (Nat → Int32)} (C0 : cx p s m args meth c cX3_giveInner 6 RX3 wsX3_giveInner none D vwCl [(cA, .int)] A) (N : Nat) (a1 : Int32) (a2 : Int32) (a3 : Int32) (f0 : Nat → Int32) (rc22 : Int32 → Int32 → (Nat → Int32) → (Nat → Int32) → (Nat → Int32) → Option ((Nat → Int32) × (Nat → Int32) × (Nat → Int32))) (hrc22 : ∀ (v4 : Int32) (v5 : Int32) (f3 : Nat → Int32) (f4 : Nat → Int32) (f5 : Nat → Int32), rc22 v4 v5 f3 f4 f5 = some res → At_ p l e (rmX3_giveInner) s m args below meth c D vwCl A 6 0 0 (Qv_ below args s D vwCl A (wdX3_2 cA q0 q1 q3 q4 q5 f0 res.1 res.2.1 res.2.2)) 22 [(0, .ref q0), (1, .int a1), (2, .int a2), (3, .int a3), (4, .int v4), (5, .int v5)] [] (wdX3_2 cA q0 q1 q3 q4 q5 f0 f3 f4 f5)) (v4 : Int32) (v5 : Int32) (s1 : Int32) (s2 : Int32) (s3 : Int32) (f3 : Nat → Int32) (f4 : Nat → Int32) (f5 : Nat → Int32) (h : bfX3_giveInner_65 N a1 a2 a3 f0 rc22 v4 v5 s1 s2 s3 f3 f4 f5 = some res) : At_ p l e (rmX3_giveInner) s m args below meth c D vwCl A 6 0 0 (Qv_ below args s D vwCl A (wdX3_2 cA q0 q1 q3 q4 q5 f0 res.1 res.2.1 res.2.2)) 65 [(0, .ref q0), (1, .int a1), (2, .int a2), (3, .int a3), (4, .int v4), (5, .int v5)] [.int s3, .int s2, .int s1, .ref q3] (wdX3_2 cA q0 q1 q3 q4 q5 f0 f3 f4 f5) := by
  unfold bfX3_giveInner_65 at h
  obtain ⟨f3_1, f4_2, f5_3, h_4, h⟩ := bd3_e h
  refine a_callVv C0 (wdX3_2 cA q0 q1 q3 q4 q5 f0 f3_1 f4_2 f5_3) (As := [.int s1, .int s2, .int s3]) (rest := []) (ctX0_give l D cA q3 q4 q5 s1 s2 s3 f3 f4 f5 h_4) (cwV 3 C0.1.2.2.2.2 gX3_giveInner_X0_give rfl rfl rfl hdX0_give ⟨Nat.le_of_ble_eq_true rfl, Nat.le_of_ble_eq_true rfl⟩) [1, 2, 3] [0] [0, 1, 2, 3] rfl rfl rfl rfl (by decide) rfl rfl rfl rfl rfl rfl (Nat.le_of_ble_eq_true rfl) dX3_giveInner_65 ⟨Nat.zero_le _, Nat.zero_le _⟩ ?_
  obtain ⟨x_5, ex_5, h⟩ := lt_e h
  refine a_iinc C0 x_5 [(5, .int x_5), (0, .ref q0), (1, .int a1), (2, .int a2), (3, .int a3), (4, .int v4)] dX3_giveInner_68 5 rfl (by subst ex_5; rfl) (by decide) rfl ?_
  refine a_goto C0 22 dX3_giveInner_71 (by decide) ?_
  refine a_lv [1, 2, 3, 4, 5, 0] (lv' := [(0, .ref q0), (1, .int a1), (2, .int a2), (3, .int a3), (4, .int v4), (5, .int x_5)]) rfl ?_
  exact hrc22 v4 x_5 f3_1 f4_2 f5_3 h
set_option maxHeartbeats 4000000 in
set_option maxRecDepth 100000 in
theorem bwX3_giveInner_74 {p : Program} {l : Launch} {e : Env} {s : State} {m : MethodId} {args : Array Value} {below : List Frame} {meth : Method} {c : Code} {D : va_G} {A : Nat → Prop} {cA : ClassId} {q0 q1 q3 q4 q5 : Nat} {res : (Nat → Int32) × (Nat → Int32) × (Nat → Int32)} (C0 : cx p s m args meth c cX3_giveInner 6 RX3 wsX3_giveInner none D vwCl [(cA, .int)] A) (N : Nat) (a1 : Int32) (a2 : Int32) (a3 : Int32) (f0 : Nat → Int32) (v4 : Int32) (f3 : Nat → Int32) (f4 : Nat → Int32) (f5 : Nat → Int32) (h : bfX3_giveInner_74 N a1 a2 a3 f0  v4 f3 f4 f5 = some res) : At_ p l e (rmX3_giveInner) s m args below meth c D vwCl A 6 0 0 (Qv_ below args s D vwCl A (wdX3_2 cA q0 q1 q3 q4 q5 f0 res.1 res.2.1 res.2.2)) 74 [(0, .ref q0), (1, .int a1), (2, .int a2), (3, .int a3), (4, .int v4)] [] (wdX3_2 cA q0 q1 q3 q4 q5 f0 f3 f4 f5) := by
  unfold bfX3_giveInner_74 at h
  refine a_aload_n C0 dX3_giveInner_74 rfl 0 rfl ?_
  refine a_get C0 inX3_giveInner_X3 0 rfl rfl 1 (by decide) lkX3_giveInner_15 (fun _ h9 => h9) (.ref q3) rfl dX3_giveInner_75 ?_
  refine a_iload C0 dX3_giveInner_78 4 rfl ?_
  obtain ⟨f3_6, h_7, h⟩ := bd1_e h
  refine a_callVv C0 (wdX3_2 cA q0 q1 q3 q4 q5 f0 f3_6 f4 f5) (As := [.int v4]) (rest := []) (ctX0_release l D cA q3 q4 v4 f3 h_7) (cwV 1 C0.1.2.2.2.2 gX3_giveInner_X0_release rfl rfl rfl hdX0_release ⟨Nat.le_of_ble_eq_true rfl, Nat.le_of_ble_eq_true rfl⟩) [1] [0, 2, 3] [0, 3, 1, 2] rfl rfl rfl rfl (by decide) rfl rfl rfl rfl rfl rfl (Nat.le_of_ble_eq_true rfl) dX3_giveInner_80 ⟨Nat.zero_le _, Nat.zero_le _⟩ ?_
  obtain rfl := Option.some.inj h
  exact a_vret C0 dX3_giveInner_83 rfl
set_option maxHeartbeats 4000000 in
set_option maxRecDepth 100000 in
theorem bwX3_giveInner_22 {p : Program} {l : Launch} {e : Env} {s : State} {m : MethodId} {args : Array Value} {below : List Frame} {meth : Method} {c : Code} {D : va_G} {A : Nat → Prop} {cA : ClassId} {q0 q1 q3 q4 q5 : Nat} {res : (Nat → Int32) × (Nat → Int32) × (Nat → Int32)} (C0 : cx p s m args meth c cX3_giveInner 6 RX3 wsX3_giveInner none D vwCl [(cA, .int)] A) (N : Nat) (a1 : Int32) (a2 : Int32) (a3 : Int32) (f0 : Nat → Int32) : ∀ (n : Nat) (v4 : Int32) (v5 : Int32) (f3 : Nat → Int32) (f4 : Nat → Int32) (f5 : Nat → Int32), bfX3_giveInner_22 N a1 a2 a3 f0  n v4 v5 f3 f4 f5 = some res → At_ p l e (rmX3_giveInner) s m args below meth c D vwCl A 6 0 0 (Qv_ below args s D vwCl A (wdX3_2 cA q0 q1 q3 q4 q5 f0 res.1 res.2.1 res.2.2)) 22 [(0, .ref q0), (1, .int a1), (2, .int a2), (3, .int a3), (4, .int v4), (5, .int v5)] [] (wdX3_2 cA q0 q1 q3 q4 q5 f0 f3 f4 f5) := by
  intro n
  induction n with
  | zero => intro v4 v5 f3 f4 f5 h; cases h
  | succ n hrc22 =>
    intro v4 v5 f3 f4 f5 h
    replace h : bFX3_giveInner_22 N a1 a2 a3 f0  (bfX3_giveInner_22 N a1 a2 a3 f0  n) v4 v5 f3 f4 f5 = some res := h
    generalize bfX3_giveInner_22 N a1 a2 a3 f0  n = rc22 at h hrc22
    unfold bFX3_giveInner_22 at h
    refine a_iload C0 dX3_giveInner_22 5 rfl ?_
    refine a_iload C0 dX3_giveInner_24 4 rfl ?_
    refine a_icmp_ge C0 74 dX3_giveInner_26 (by decide) (fun c_8 => ?_) (fun c_8 => ?_)
    · have h := it_ c_8 h
      refine a_lv [0, 1, 2, 3, 4] (lv' := [(0, .ref q0), (1, .int a1), (2, .int a2), (3, .int a3), (4, .int v4)]) rfl ?_
      exact bwX3_giveInner_74 C0 N a1 a2 a3 f0 v4 f3 f4 f5 h
    · have h := ie_ c_8 h
      refine a_aload_n C0 dX3_giveInner_29 rfl 0 rfl ?_
      refine a_get C0 inX3_giveInner_X3 0 rfl rfl 1 (by decide) lkX3_giveInner_15 (fun _ h9 => h9) (.ref q3) rfl dX3_giveInner_30 ?_
      obtain ⟨r_9, h_10, h⟩ := bd1_e h
      refine a_callVi C0 (wdX3_2 cA q0 q1 q3 q4 q5 f0 f3 f4 f5) (As := []) (rest := []) (ctX0_failed l D cA q3 q4 f3 h_10) (cwV 0 C0.1.2.2.2.2 gX3_giveInner_X0_failed rfl rfl rfl hdX0_failed ⟨Nat.le_of_ble_eq_true rfl, Nat.le_of_ble_eq_true rfl⟩) [1] [0, 2, 3] [0, 3, 1, 2] rfl rfl rfl rfl (by decide) rfl rfl rfl rfl rfl rfl (Nat.le_of_ble_eq_true rfl) dX3_giveInner_33 ⟨Nat.zero_le _, Nat.zero_le _⟩ ?_
      refine a_if_ne C0 74 dX3_giveInner_36 (by decide) (fun c_11 => ?_) (fun c_11 => ?_)
      · have h := ie_ c_11 h
        refine a_lv [0, 1, 2, 3, 4] (lv' := [(0, .ref q0), (1, .int a1), (2, .int a2), (3, .int a3), (4, .int v4)]) rfl ?_
        exact bwX3_giveInner_74 C0 N a1 a2 a3 f0 v4 f3 f4 f5 h
      · have h := it_ c_11 h
        refine a_aload_n C0 dX3_giveInner_39 rfl 0 rfl ?_
        refine a_get C0 inX3_giveInner_X3 0 rfl rfl 1 (by decide) lkX3_giveInner_15 (fun _ h9 => h9) (.ref q3) rfl dX3_giveInner_40 ?_
        refine a_aload_n C0 dX3_giveInner_43 rfl 0 rfl ?_
        refine a_get C0 inX3_giveInner_X3 0 rfl rfl 2 (by decide) lkX3_giveInner_25 (fun _ h9 => h9) (.ref q4) rfl dX3_giveInner_44 ?_
        refine a_iload_n C0 dX3_giveInner_47 rfl 1 rfl ?_
        refine a_iload C0 dX3_giveInner_48 5 rfl ?_
        refine a_iadd C0 dX3_giveInner_50 ?_
        obtain ⟨r_12, h_13, h⟩ := bd1_e h
        refine a_callVi C0 (wdX3_2 cA q0 q1 q3 q4 q5 f0 f3 f4 f5) (As := [.int (a1 + v5)]) (rest := [.ref q3]) (ctX4_byteAt l D cA q4 q5 (a1 + v5) f4 f5 h_13) (cwV 1 C0.1.2.2.2.2 gX3_giveInner_X4_byteAt rfl rfl rfl hdX4_byteAt ⟨Nat.le_of_ble_eq_true rfl, Nat.le_of_ble_eq_true rfl⟩) [2, 3] [0, 1] [0, 1, 2, 3] rfl rfl rfl rfl (by decide) rfl rfl rfl rfl rfl rfl (Nat.le_of_ble_eq_true rfl) dX3_giveInner_51 ⟨Nat.zero_le _, Nat.zero_le _⟩ ?_
        refine a_iload_n C0 dX3_giveInner_54 rfl 2 rfl ?_
        refine a_iload_n C0 dX3_giveInner_55 rfl 3 rfl ?_
        refine a_iconst C0 (1 : Int32) dX3_giveInner_56 (by decide) ?_
        refine a_icmp_ne C0 64 dX3_giveInner_57 (by decide) (fun c_14 => ?_) (fun c_14 => ?_)
        · have h := ie_ c_14 h
          refine a_iconst C0 (0 : Int32) dX3_giveInner_64 (by decide) ?_
          exact bwX3_giveInner_65 C0 N a1 a2 a3 f0 rc22 hrc22 v4 v5 r_12 a2 (0 : Int32) f3 f4 f5 h
        · have h := it_ c_14 h
          refine a_iconst C0 (1 : Int32) dX3_giveInner_60 (by decide) ?_
          refine a_goto C0 65 dX3_giveInner_61 (by decide) ?_
          exact bwX3_giveInner_65 C0 N a1 a2 a3 f0 rc22 hrc22 v4 v5 r_12 a2 (1 : Int32) f3 f4 f5 h
set_option maxHeartbeats 4000000 in
set_option maxRecDepth 100000 in
theorem bwX3_giveInner {p : Program} {l : Launch} {e : Env} {s : State} {m : MethodId} {args : Array Value} {below : List Frame} {meth : Method} {c : Code} {D : va_G} {A : Nat → Prop} {cA : ClassId} {q0 q1 q3 q4 q5 : Nat} {res : (Nat → Int32) × (Nat → Int32) × (Nat → Int32)} (C0 : cx p s m args meth c cX3_giveInner 6 RX3 wsX3_giveInner none D vwCl [(cA, .int)] A) (N : Nat) (a1 : Int32) (a2 : Int32) (a3 : Int32) (f0 : Nat → Int32) (f3 : Nat → Int32) (f4 : Nat → Int32) (f5 : Nat → Int32) (h : pX3_giveInner N a1 a2 a3 f0 f3 f4 f5 = some res) : At_ p l e (rmX3_giveInner) s m args below meth c D vwCl A 6 0 0 (Qv_ below args s D vwCl A (wdX3_2 cA q0 q1 q3 q4 q5 f0 res.1 res.2.1 res.2.2)) 0 [(0, .ref q0), (1, .int a1), (2, .int a2), (3, .int a3)] [] (wdX3_2 cA q0 q1 q3 q4 q5 f0 f3 f4 f5) := by
  unfold pX3_giveInner at h
  refine a_aload_n C0 dX3_giveInner_0 rfl 0 rfl ?_
  refine a_get C0 inX3_giveInner_X3 0 rfl rfl 2 (by decide) lkX3_giveInner_25 (fun _ h9 => h9) (.ref q4) rfl dX3_giveInner_1 ?_
  obtain ⟨r_15, h_16, h⟩ := bd1_e h
  refine a_callVi C0 (wdX3_2 cA q0 q1 q3 q4 q5 f0 f3 f4 f5) (As := []) (rest := []) (ctX4_top l D cA q4 q5 f4 h_16) (cwV 0 C0.1.2.2.2.2 gX3_giveInner_X4_top rfl rfl rfl hdX4_top ⟨Nat.le_of_ble_eq_true rfl, Nat.le_of_ble_eq_true rfl⟩) [2] [0, 1, 3] [0, 1, 3, 2] rfl rfl rfl rfl (by decide) rfl rfl rfl rfl rfl rfl (Nat.le_of_ble_eq_true rfl) dX3_giveInner_4 ⟨Nat.zero_le _, Nat.zero_le _⟩ ?_
  refine a_iload_n C0 dX3_giveInner_7 rfl 1 rfl ?_
  refine a_isub C0 dX3_giveInner_8 ?_
  obtain ⟨x_17, ex_17, h⟩ := lt_e h
  refine a_topi ex_17 ?_
  refine a_istore C0 [(4, .int x_17), (0, .ref q0), (1, .int a1), (2, .int a2), (3, .int a3)] dX3_giveInner_9 (by decide) rfl ?_
  refine a_aload_n C0 dX3_giveInner_11 rfl 1 rfl ?_
  refine a_get C0 inX3_giveInner_X3 0 rfl rfl 2 (by decide) lkX3_giveInner_25 (fun _ h9 => h9) (.ref q4) rfl dX3_giveInner_12 ?_
  refine a_iload_n C0 dX3_giveInner_15 rfl 2 rfl ?_
  obtain ⟨f4_18, h_19, h⟩ := bd1_e h
  refine a_callVv C0 (wdX3_2 cA q0 q1 q3 q4 q5 f0 f3 f4_18 f5) (As := [.int a1]) (rest := []) (ctX4_backTo l D cA q4 q5 a1 f4 h_19) (cwV 1 C0.1.2.2.2.2 gX3_giveInner_X4_backTo rfl rfl rfl hdX4_backTo ⟨Nat.le_of_ble_eq_true rfl, Nat.le_of_ble_eq_true rfl⟩) [2] [0, 1, 3] [0, 1, 3, 2] rfl rfl rfl rfl (by decide) rfl rfl rfl rfl rfl rfl (Nat.le_of_ble_eq_true rfl) dX3_giveInner_16 ⟨Nat.zero_le _, Nat.zero_le _⟩ ?_
  refine a_iconst C0 (0 : Int32) dX3_giveInner_19 (by decide) ?_
  refine a_istore C0 [(5, .int (0 : Int32)), (4, .int x_17), (0, .ref q0), (1, .int a1), (2, .int a2), (3, .int a3)] dX3_giveInner_20 (by decide) rfl ?_
  refine a_lv [2, 3, 4, 5, 1, 0] (lv' := [(0, .ref q0), (1, .int a1), (2, .int a2), (3, .int a3), (4, .int x_17), (5, .int (0 : Int32))]) rfl ?_
  exact bwX3_giveInner_22 C0 N a1 a2 a3 f0 N x_17 (0 : Int32) f3 f4_18 f5 h
set_option maxRecDepth 100000 in
theorem ctX3_giveInner (l : Launch) (D : va_G) (cA : ClassId) (q0 q1 q3 q4 q5 : Nat) (N : Nat) (a1 : Int32) (a2 : Int32) (a3 : Int32) (f0 : Nat → Int32) (f3 : Nat → Int32) (f4 : Nat → Int32) (f5 : Nat → Int32) {res : (Nat → Int32) × (Nat → Int32) × (Nat → Int32)} (h : pX3_giveInner N a1 a2 a3 f0 f3 f4 f5 = some res) : Ctv l yX3_giveInner wsX3_giveInner (rmX3_giveInner) D vwCl [(cA, .int)] [.ref q0, .int a1, .int a2, .int a3] (wdX3_2 cA q0 q1 q3 q4 q5 f0 f3 f4 f5) (wdX3_2 cA q0 q1 q3 q4 q5 f0 res.1 res.2.1 res.2.2) 0 0 :=
  ct_n (S := Unit) (maxL := 6) (cc := cX3_giveInner) (by decide) rfl (Nat.le_of_ble_eq_true rfl) (fun p e s m below meth c _ C0 => bwX3_giveInner C0 N a1 a2 a3 f0 f3 f4 f5 h)
/-! PackDrawer$PlainReader.readCopy -/
abbrev rmX3_readCopy : Room := { frames := 3, cells := 0, slots := 0, locals := 63 }
theorem nmX3_readCopy_112 : (RX3, 112, yX6_copyCount, RX6) ∈ nest_M := by decide +kernel
theorem niX3_readCopy_X6 : Cond.initialized RX6 ∈ wsX3_readCopy := by decide +kernel
theorem nsX3_readCopy_X6_copyCount : Cond.static yX6_copyCount ∈ wsX3_readCopy := by decide +kernel
theorem lkX3_readCopy_15 : Cond.fieldLink RX3 15 RX3 (TX3 1).2.1 (TX3 1).2.2.1 ∈ wsX3_readCopy := by decide +kernel
theorem inX3_readCopy_X3 : ∀ w ∈ u_ws RX3 TX3 6, w ∈ wsX3_readCopy := by decide +kernel
theorem lkX3_readCopy_25 : Cond.fieldLink RX3 25 RX3 (TX3 2).2.1 (TX3 2).2.2.1 ∈ wsX3_readCopy := by decide +kernel
theorem lkX3_readCopy_30 : Cond.fieldLink RX3 30 RX3 (TX3 5).2.1 (TX3 5).2.2.1 ∈ wsX3_readCopy := by decide +kernel
def bfX3_readCopy_92 (N : Nat) (a1 : Int32) (a2 : Int32) (a3 : Int32) (a4 : Int32) (f1 : Nat → Int32) (f2 : Nat → Int32) (rc41 : Int32 → Int32 → (Nat → Int32) → (Nat → Int32) → (Nat → Int32) → (Nat → Int32) → Option ((Nat → Int32) × (Nat → Int32) × (Nat → Int32) × (Nat → Int32))) (v5 : Int32) (v6 : Int32) (s1 : Int32) (s2 : Int32) (s3 : Int32) (f0 : Nat → Int32) (f3 : Nat → Int32) (f4 : Nat → Int32) (f5 : Nat → Int32) : Option ((Nat → Int32) × (Nat → Int32) × (Nat → Int32) × (Nat → Int32)) := bd3 (pX0_give s1 s2 s3 f3 f4 f5) (fun f3_1 f4_2 f5_3 => lt_ ((v6 + (1 : Int32))) (fun x_5 => rc41 v5 x_5 f0 f3_1 f4_2 f5_3))
def bFX3_readCopy_41 (N : Nat) (a1 : Int32) (a2 : Int32) (a3 : Int32) (a4 : Int32) (f1 : Nat → Int32) (f2 : Nat → Int32) (rc41 : Int32 → Int32 → (Nat → Int32) → (Nat → Int32) → (Nat → Int32) → (Nat → Int32) → Option ((Nat → Int32) × (Nat → Int32) × (Nat → Int32) × (Nat → Int32))) (v5 : Int32) (v6 : Int32) (f0 : Nat → Int32) (f3 : Nat → Int32) (f4 : Nat → Int32) (f5 : Nat → Int32) : Option ((Nat → Int32) × (Nat → Int32) × (Nat → Int32) × (Nat → Int32)) := bd1 (pX6_copyCount a1) (fun r_6 => if r_6 ≤ v6 then some (f0, f3, f4, f5) else bd1 (pX0_failed f3) (fun r_9 => if r_9 = 0 then bd1 (pX4_top f4) (fun r_12 => bd1 (pX4_byteAt (r_12 - v5) f4 f5) (fun r_14 => if a3 = (1 : Int32) then bfX3_readCopy_92 N a1 a2 a3 a4 f1 f2 rc41 v5 v6 r_14 a2 (1 : Int32) f0 f3 f4 f5 else bfX3_readCopy_92 N a1 a2 a3 a4 f1 f2 rc41 v5 v6 r_14 a2 (0 : Int32) f0 f3 f4 f5)) else some (f0, f3, f4, f5)))
def bfX3_readCopy_41 (N : Nat) (a1 : Int32) (a2 : Int32) (a3 : Int32) (a4 : Int32) (f1 : Nat → Int32) (f2 : Nat → Int32) : Nat → Int32 → Int32 → (Nat → Int32) → (Nat → Int32) → (Nat → Int32) → (Nat → Int32) → Option ((Nat → Int32) × (Nat → Int32) × (Nat → Int32) × (Nat → Int32))
  | 0 => fun _ _ _ _ _ _ => none
  | n + 1 => bFX3_readCopy_41 N a1 a2 a3 a4 f1 f2  (bfX3_readCopy_41 N a1 a2 a3 a4 f1 f2  n)
def bfX3_readCopy_38 (N : Nat) (a1 : Int32) (a2 : Int32) (a3 : Int32) (a4 : Int32) (f1 : Nat → Int32) (f2 : Nat → Int32) (v5 : Int32) (f0 : Nat → Int32) (f3 : Nat → Int32) (f4 : Nat → Int32) (f5 : Nat → Int32) : Option ((Nat → Int32) × (Nat → Int32) × (Nat → Int32) × (Nat → Int32)) := bfX3_readCopy_41 N a1 a2 a3 a4 f1 f2 N v5 (0 : Int32) f0 f3 f4 f5
def pX3_readCopy (N : Nat) (a1 : Int32) (a2 : Int32) (a3 : Int32) (a4 : Int32) (f0 : Nat → Int32) (f1 : Nat → Int32) (f2 : Nat → Int32) (f3 : Nat → Int32) (f4 : Nat → Int32) (f5 : Nat → Int32) : Option ((Nat → Int32) × (Nat → Int32) × (Nat → Int32) × (Nat → Int32)) := bd3 (pX3_take a3 f0 f1 f2 f3) (fun r_17 f0_18 f3_19 => lt_ ((r_17 + (1 : Int32))) (fun x_21 => bd1 (pX4_top f4) (fun r_22 => if a4 ≤ (r_22 - x_21) then bfX3_readCopy_38 N a1 a2 a3 a4 f1 f2 x_21 f0_18 f3_19 f4 f5 else bd1 (pX0_fail (3 : Int32) ((f0_18 5) - (1 : Int32)) f3_19) (fun f3_25 => bfX3_readCopy_38 N a1 a2 a3 a4 f1 f2 x_21 f0_18 f3_25 f4 f5))))
set_option maxHeartbeats 4000000 in
set_option maxRecDepth 100000 in
theorem bwX3_readCopy_92 {p : Program} {l : Launch} {e : Env} {s : State} {m : MethodId} {args : Array Value} {below : List Frame} {meth : Method} {c : Code} {D : va_G} {A : Nat → Prop} {cA : ClassId} {q0 q1 q2 q3 q4 q5 : Nat} {res : (Nat → Int32) × (Nat → Int32) × (Nat → Int32) × (Nat → Int32)} (C0 : cx p s m args meth c cX3_readCopy 7 RX3 wsX3_readCopy none D vwCl [(cA, .int)] A) (N : Nat) (a1 : Int32) (a2 : Int32) (a3 : Int32) (a4 : Int32) (f1 : Nat → Int32) (f2 : Nat → Int32) (rc41 : Int32 → Int32 → (Nat → Int32) → (Nat → Int32) → (Nat → Int32) → (Nat → Int32) → Option ((Nat → Int32) × (Nat → Int32) × (Nat → Int32) × (Nat → Int32))) (hrc41 : ∀ (v5 : Int32) (v6 : Int32) (f0 : Nat → Int32) (f3 : Nat → Int32) (f4 : Nat → Int32) (f5 : Nat → Int32), rc41 v5 v6 f0 f3 f4 f5 = some res → At_ p l e (rmX3_readCopy) s m args below meth c D vwCl A 7 0 0 (Qv_ below args s D vwCl A (wdX3_1 cA q0 q1 q2 q3 q4 q5 res.1 f1 f2 res.2.1 res.2.2.1 res.2.2.2)) 41 [(0, .ref q0), (1, .int a1), (2, .int a2), (3, .int a3), (4, .int a4), (5, .int v5), (6, .int v6)] [] (wdX3_1 cA q0 q1 q2 q3 q4 q5 f0 f1 f2 f3 f4 f5)) (v5 : Int32) (v6 : Int32) (s1 : Int32) (s2 : Int32) (s3 : Int32) (f0 : Nat → Int32) (f3 : Nat → Int32) (f4 : Nat → Int32) (f5 : Nat → Int32) (h : bfX3_readCopy_92 N a1 a2 a3 a4 f1 f2 rc41 v5 v6 s1 s2 s3 f0 f3 f4 f5 = some res) : At_ p l e (rmX3_readCopy) s m args below meth c D vwCl A 7 0 0 (Qv_ below args s D vwCl A (wdX3_1 cA q0 q1 q2 q3 q4 q5 res.1 f1 f2 res.2.1 res.2.2.1 res.2.2.2)) 92 [(0, .ref q0), (1, .int a1), (2, .int a2), (3, .int a3), (4, .int a4), (5, .int v5), (6, .int v6)] [.int s3, .int s2, .int s1, .ref q3] (wdX3_1 cA q0 q1 q2 q3 q4 q5 f0 f1 f2 f3 f4 f5) := by
  unfold bfX3_readCopy_92 at h
  obtain ⟨f3_1, f4_2, f5_3, h_4, h⟩ := bd3_e h
  refine a_callVv C0 (wdX3_1 cA q0 q1 q2 q3 q4 q5 f0 f1 f2 f3_1 f4_2 f5_3) (As := [.int s1, .int s2, .int s3]) (rest := []) (ctX0_give l D cA q3 q4 q5 s1 s2 s3 f3 f4 f5 h_4) (cwV 3 C0.1.2.2.2.2 gX3_readCopy_X0_give rfl rfl rfl hdX0_give ⟨Nat.le_of_ble_eq_true rfl, Nat.le_of_ble_eq_true rfl⟩) [3, 4, 5] [0, 1, 2] [0, 1, 2, 3, 4, 5] rfl rfl rfl rfl (by decide) rfl rfl rfl rfl rfl rfl (Nat.le_of_ble_eq_true rfl) dX3_readCopy_92 ⟨Nat.zero_le _, Nat.zero_le _⟩ ?_
  obtain ⟨x_5, ex_5, h⟩ := lt_e h
  refine a_iinc C0 x_5 [(6, .int x_5), (0, .ref q0), (1, .int a1), (2, .int a2), (3, .int a3), (4, .int a4), (5, .int v5)] dX3_readCopy_95 6 rfl (by subst ex_5; rfl) (by decide) rfl ?_
  refine a_goto C0 41 dX3_readCopy_98 (by decide) ?_
  refine a_lv [1, 2, 3, 4, 5, 6, 0] (lv' := [(0, .ref q0), (1, .int a1), (2, .int a2), (3, .int a3), (4, .int a4), (5, .int v5), (6, .int x_5)]) rfl ?_
  exact hrc41 v5 x_5 f0 f3_1 f4_2 f5_3 h
set_option maxHeartbeats 4000000 in
set_option maxRecDepth 100000 in
theorem bwX3_readCopy_41 {p : Program} {l : Launch} {e : Env} {s : State} {m : MethodId} {args : Array Value} {below : List Frame} {meth : Method} {c : Code} {D : va_G} {A : Nat → Prop} {cA : ClassId} {q0 q1 q2 q3 q4 q5 : Nat} {res : (Nat → Int32) × (Nat → Int32) × (Nat → Int32) × (Nat → Int32)} (C0 : cx p s m args meth c cX3_readCopy 7 RX3 wsX3_readCopy none D vwCl [(cA, .int)] A) (N : Nat) (a1 : Int32) (a2 : Int32) (a3 : Int32) (a4 : Int32) (f1 : Nat → Int32) (f2 : Nat → Int32) : ∀ (n : Nat) (v5 : Int32) (v6 : Int32) (f0 : Nat → Int32) (f3 : Nat → Int32) (f4 : Nat → Int32) (f5 : Nat → Int32), bfX3_readCopy_41 N a1 a2 a3 a4 f1 f2  n v5 v6 f0 f3 f4 f5 = some res → At_ p l e (rmX3_readCopy) s m args below meth c D vwCl A 7 0 0 (Qv_ below args s D vwCl A (wdX3_1 cA q0 q1 q2 q3 q4 q5 res.1 f1 f2 res.2.1 res.2.2.1 res.2.2.2)) 41 [(0, .ref q0), (1, .int a1), (2, .int a2), (3, .int a3), (4, .int a4), (5, .int v5), (6, .int v6)] [] (wdX3_1 cA q0 q1 q2 q3 q4 q5 f0 f1 f2 f3 f4 f5) := by
  intro n
  induction n with
  | zero => intro v5 v6 f0 f3 f4 f5 h; cases h
  | succ n hrc41 =>
    intro v5 v6 f0 f3 f4 f5 h
    replace h : bFX3_readCopy_41 N a1 a2 a3 a4 f1 f2  (bfX3_readCopy_41 N a1 a2 a3 a4 f1 f2  n) v5 v6 f0 f3 f4 f5 = some res := h
    generalize bfX3_readCopy_41 N a1 a2 a3 a4 f1 f2  n = rc41 at h hrc41
    unfold bFX3_readCopy_41 at h
    refine a_iload C0 dX3_readCopy_41 6 rfl ?_
    refine a_iload_n C0 dX3_readCopy_43 rfl 1 rfl ?_
    obtain ⟨r_6, h_7, h⟩ := bd1_e h
    refine a_callSNi C0 (wdX3_1 cA q0 q1 q2 q3 q4 q5 f0 f1 f2 f3 f4 f5) (As := [.int a1]) (rest := [.int v6]) (ctX6_copyCount l D cA a1 h_7) ⟨va_cnB 1 C0.1.2.2.2.2 gX3_readCopy_X6_copyCount_n112 rfl rfl rfl (C0.2.2.2.1.2.2 (RX3, 112, yX6_copyCount, RX6) nmX3_readCopy_112) (C0.1.2.2.2.2 (.initialized RX6) niX3_readCopy_X6) hdX6_copyCount.2 ⟨Nat.le_of_ble_eq_true rfl, Nat.le_of_ble_eq_true rfl⟩, (C0.1.2.2.2.2 (.static yX6_copyCount) nsX3_readCopy_X6_copyCount), trivial⟩ [] [0, 1, 2, 3, 4, 5] [0, 1, 2, 3, 4, 5] rfl rfl rfl rfl (by decide) rfl rfl rfl rfl (Nat.le_of_ble_eq_true rfl) dX3_readCopy_44 ⟨Nat.zero_le _, Nat.zero_le _⟩ ?_
    refine a_icmp_ge C0 101 dX3_readCopy_47 (by decide) (fun c_8 => ?_) (fun c_8 => ?_)
    · have h := it_ c_8 h
      obtain rfl := Option.some.inj h
      exact a_vret C0 dX3_readCopy_101 rfl
    · have h := ie_ c_8 h
      refine a_aload_n C0 dX3_readCopy_50 rfl 0 rfl ?_
      refine a_get C0 inX3_readCopy_X3 0 rfl rfl 1 (by decide) lkX3_readCopy_15 (fun _ h9 => h9) (.ref q3) rfl dX3_readCopy_51 ?_
      obtain ⟨r_9, h_10, h⟩ := bd1_e h
      refine a_callVi C0 (wdX3_1 cA q0 q1 q2 q3 q4 q5 f0 f1 f2 f3 f4 f5) (As := []) (rest := []) (ctX0_failed l D cA q3 q4 f3 h_10) (cwV 0 C0.1.2.2.2.2 gX3_readCopy_X0_failed rfl rfl rfl hdX0_failed ⟨Nat.le_of_ble_eq_true rfl, Nat.le_of_ble_eq_true rfl⟩) [3] [0, 1, 2, 4, 5] [0, 1, 2, 5, 3, 4] rfl rfl rfl rfl (by decide) rfl rfl rfl rfl rfl rfl (Nat.le_of_ble_eq_true rfl) dX3_readCopy_54 ⟨Nat.zero_le _, Nat.zero_le _⟩ ?_
      refine a_if_ne C0 101 dX3_readCopy_57 (by decide) (fun c_11 => ?_) (fun c_11 => ?_)
      · have h := ie_ c_11 h
        obtain rfl := Option.some.inj h
        exact a_vret C0 dX3_readCopy_101 rfl
      · have h := it_ c_11 h
        refine a_aload_n C0 dX3_readCopy_60 rfl 0 rfl ?_
        refine a_get C0 inX3_readCopy_X3 0 rfl rfl 1 (by decide) lkX3_readCopy_15 (fun _ h9 => h9) (.ref q3) rfl dX3_readCopy_61 ?_
        refine a_aload_n C0 dX3_readCopy_64 rfl 0 rfl ?_
        refine a_get C0 inX3_readCopy_X3 0 rfl rfl 2 (by decide) lkX3_readCopy_25 (fun _ h9 => h9) (.ref q4) rfl dX3_readCopy_65 ?_
        refine a_aload_n C0 dX3_readCopy_68 rfl 0 rfl ?_
        refine a_get C0 inX3_readCopy_X3 0 rfl rfl 2 (by decide) lkX3_readCopy_25 (fun _ h9 => h9) (.ref q4) rfl dX3_readCopy_69 ?_
        obtain ⟨r_12, h_13, h⟩ := bd1_e h
        refine a_callVi C0 (wdX3_1 cA q0 q1 q2 q3 q4 q5 f0 f1 f2 f3 f4 f5) (As := []) (rest := [.ref q4, .ref q3]) (ctX4_top l D cA q4 q5 f4 h_13) (cwV 0 C0.1.2.2.2.2 gX3_readCopy_X4_top rfl rfl rfl hdX4_top ⟨Nat.le_of_ble_eq_true rfl, Nat.le_of_ble_eq_true rfl⟩) [4] [0, 1, 2, 3, 5] [0, 1, 2, 3, 5, 4] rfl rfl rfl rfl (by decide) rfl rfl rfl rfl rfl rfl (Nat.le_of_ble_eq_true rfl) dX3_readCopy_72 ⟨Nat.zero_le _, Nat.zero_le _⟩ ?_
        refine a_iload C0 dX3_readCopy_75 5 rfl ?_
        refine a_isub C0 dX3_readCopy_77 ?_
        obtain ⟨r_14, h_15, h⟩ := bd1_e h
        refine a_callVi C0 (wdX3_1 cA q0 q1 q2 q3 q4 q5 f0 f1 f2 f3 f4 f5) (As := [.int (r_12 - v5)]) (rest := [.ref q3]) (ctX4_byteAt l D cA q4 q5 (r_12 - v5) f4 f5 h_15) (cwV 1 C0.1.2.2.2.2 gX3_readCopy_X4_byteAt rfl rfl rfl hdX4_byteAt ⟨Nat.le_of_ble_eq_true rfl, Nat.le_of_ble_eq_true rfl⟩) [4, 5] [0, 1, 2, 3] [0, 1, 2, 3, 4, 5] rfl rfl rfl rfl (by decide) rfl rfl rfl rfl rfl rfl (Nat.le_of_ble_eq_true rfl) dX3_readCopy_78 ⟨Nat.zero_le _, Nat.zero_le _⟩ ?_
        refine a_iload_n C0 dX3_readCopy_81 rfl 2 rfl ?_
        refine a_iload_n C0 dX3_readCopy_82 rfl 3 rfl ?_
        refine a_iconst C0 (1 : Int32) dX3_readCopy_83 (by decide) ?_
        refine a_icmp_ne C0 91 dX3_readCopy_84 (by decide) (fun c_16 => ?_) (fun c_16 => ?_)
        · have h := ie_ c_16 h
          refine a_iconst C0 (0 : Int32) dX3_readCopy_91 (by decide) ?_
          exact bwX3_readCopy_92 C0 N a1 a2 a3 a4 f1 f2 rc41 hrc41 v5 v6 r_14 a2 (0 : Int32) f0 f3 f4 f5 h
        · have h := it_ c_16 h
          refine a_iconst C0 (1 : Int32) dX3_readCopy_87 (by decide) ?_
          refine a_goto C0 92 dX3_readCopy_88 (by decide) ?_
          exact bwX3_readCopy_92 C0 N a1 a2 a3 a4 f1 f2 rc41 hrc41 v5 v6 r_14 a2 (1 : Int32) f0 f3 f4 f5 h
set_option maxHeartbeats 4000000 in
set_option maxRecDepth 100000 in
theorem bwX3_readCopy_38 {p : Program} {l : Launch} {e : Env} {s : State} {m : MethodId} {args : Array Value} {below : List Frame} {meth : Method} {c : Code} {D : va_G} {A : Nat → Prop} {cA : ClassId} {q0 q1 q2 q3 q4 q5 : Nat} {res : (Nat → Int32) × (Nat → Int32) × (Nat → Int32) × (Nat → Int32)} (C0 : cx p s m args meth c cX3_readCopy 7 RX3 wsX3_readCopy none D vwCl [(cA, .int)] A) (N : Nat) (a1 : Int32) (a2 : Int32) (a3 : Int32) (a4 : Int32) (f1 : Nat → Int32) (f2 : Nat → Int32) (v5 : Int32) (f0 : Nat → Int32) (f3 : Nat → Int32) (f4 : Nat → Int32) (f5 : Nat → Int32) (h : bfX3_readCopy_38 N a1 a2 a3 a4 f1 f2  v5 f0 f3 f4 f5 = some res) : At_ p l e (rmX3_readCopy) s m args below meth c D vwCl A 7 0 0 (Qv_ below args s D vwCl A (wdX3_1 cA q0 q1 q2 q3 q4 q5 res.1 f1 f2 res.2.1 res.2.2.1 res.2.2.2)) 38 [(0, .ref q0), (1, .int a1), (2, .int a2), (3, .int a3), (4, .int a4), (5, .int v5)] [] (wdX3_1 cA q0 q1 q2 q3 q4 q5 f0 f1 f2 f3 f4 f5) := by
  unfold bfX3_readCopy_38 at h
  refine a_iconst C0 (0 : Int32) dX3_readCopy_38 (by decide) ?_
  refine a_istore C0 [(6, .int (0 : Int32)), (0, .ref q0), (1, .int a1), (2, .int a2), (3, .int a3), (4, .int a4), (5, .int v5)] dX3_readCopy_39 (by decide) rfl ?_
  refine a_lv [1, 2, 3, 4, 5, 6, 0] (lv' := [(0, .ref q0), (1, .int a1), (2, .int a2), (3, .int a3), (4, .int a4), (5, .int v5), (6, .int (0 : Int32))]) rfl ?_
  exact bwX3_readCopy_41 C0 N a1 a2 a3 a4 f1 f2 N v5 (0 : Int32) f0 f3 f4 f5 h
set_option maxHeartbeats 4000000 in
set_option maxRecDepth 100000 in
theorem bwX3_readCopy {p : Program} {l : Launch} {e : Env} {s : State} {m : MethodId} {args : Array Value} {below : List Frame} {meth : Method} {c : Code} {D : va_G} {A : Nat → Prop} {cA : ClassId} {q0 q1 q2 q3 q4 q5 : Nat} {res : (Nat → Int32) × (Nat → Int32) × (Nat → Int32) × (Nat → Int32)} (C0 : cx p s m args meth c cX3_readCopy 7 RX3 wsX3_readCopy none D vwCl [(cA, .int)] A) (N : Nat) (a1 : Int32) (a2 : Int32) (a3 : Int32) (a4 : Int32) (f0 : Nat → Int32) (f1 : Nat → Int32) (f2 : Nat → Int32) (f3 : Nat → Int32) (f4 : Nat → Int32) (f5 : Nat → Int32) (h : pX3_readCopy N a1 a2 a3 a4 f0 f1 f2 f3 f4 f5 = some res) : At_ p l e (rmX3_readCopy) s m args below meth c D vwCl A 7 0 0 (Qv_ below args s D vwCl A (wdX3_1 cA q0 q1 q2 q3 q4 q5 res.1 f1 f2 res.2.1 res.2.2.1 res.2.2.2)) 0 [(0, .ref q0), (1, .int a1), (2, .int a2), (3, .int a3), (4, .int a4)] [] (wdX3_1 cA q0 q1 q2 q3 q4 q5 f0 f1 f2 f3 f4 f5) := by
  unfold pX3_readCopy at h
  refine a_aload_n C0 dX3_readCopy_0 rfl 0 rfl ?_
  refine a_iload_n C0 dX3_readCopy_1 rfl 3 rfl ?_
  obtain ⟨r_17, f0_18, f3_19, h_20, h⟩ := bd3_e h
  refine a_callVi C0 (wdX3_1 cA q0 q1 q2 q3 q4 q5 f0_18 f1 f2 f3_19 f4 f5) (As := [.int a3]) (rest := []) (ctX3_take l D cA q0 q1 q2 q3 q4 a3 f0 f1 f2 f3 h_20) (cwV 1 C0.1.2.2.2.2 gX3_readCopy_X3_take rfl rfl rfl hdX3_take ⟨Nat.le_of_ble_eq_true rfl, Nat.le_of_ble_eq_true rfl⟩) [0, 1, 2, 3] [4, 5] [2, 3, 4, 5, 0, 1] rfl rfl rfl rfl (by decide) rfl rfl rfl rfl rfl rfl (Nat.le_of_ble_eq_true rfl) dX3_readCopy_2 ⟨Nat.zero_le _, Nat.zero_le _⟩ ?_
  refine a_iconst C0 (1 : Int32) dX3_readCopy_5 (by decide) ?_
  refine a_iadd C0 dX3_readCopy_6 ?_
  obtain ⟨x_21, ex_21, h⟩ := lt_e h
  refine a_topi ex_21 ?_
  refine a_istore C0 [(5, .int x_21), (0, .ref q0), (1, .int a1), (2, .int a2), (3, .int a3), (4, .int a4)] dX3_readCopy_7 (by decide) rfl ?_
  refine a_aload_n C0 dX3_readCopy_9 rfl 1 rfl ?_
  refine a_get C0 inX3_readCopy_X3 0 rfl rfl 2 (by decide) lkX3_readCopy_25 (fun _ h9 => h9) (.ref q4) rfl dX3_readCopy_10 ?_
  obtain ⟨r_22, h_23, h⟩ := bd1_e h
  refine a_callVi C0 (wdX3_1 cA q0 q1 q2 q3 q4 q5 f0_18 f1 f2 f3_19 f4 f5) (As := []) (rest := []) (ctX4_top l D cA q4 q5 f4 h_23) (cwV 0 C0.1.2.2.2.2 gX3_readCopy_X4_top rfl rfl rfl hdX4_top ⟨Nat.le_of_ble_eq_true rfl, Nat.le_of_ble_eq_true rfl⟩) [4] [0, 1, 2, 3, 5] [0, 1, 2, 3, 5, 4] rfl rfl rfl rfl (by decide) rfl rfl rfl rfl rfl rfl (Nat.le_of_ble_eq_true rfl) dX3_readCopy_13 ⟨Nat.zero_le _, Nat.zero_le _⟩ ?_
  refine a_iload C0 dX3_readCopy_16 0 rfl ?_
  refine a_isub C0 dX3_readCopy_18 ?_
  refine a_iload C0 dX3_readCopy_19 5 rfl ?_
  refine a_icmp_ge C0 38 dX3_readCopy_21 (by decide) (fun c_24 => ?_) (fun c_24 => ?_)
  · have h := it_ c_24 h
    refine a_lv [1, 2, 3, 4, 5, 0] (lv' := [(0, .ref q0), (1, .int a1), (2, .int a2), (3, .int a3), (4, .int a4), (5, .int x_21)]) rfl ?_
    exact bwX3_readCopy_38 C0 N a1 a2 a3 a4 f1 f2 x_21 f0_18 f3_19 f4 f5 h
  · have h := ie_ c_24 h
    refine a_aload_n C0 dX3_readCopy_24 rfl 1 rfl ?_
    refine a_get C0 inX3_readCopy_X3 0 rfl rfl 1 (by decide) lkX3_readCopy_15 (fun _ h9 => h9) (.ref q3) rfl dX3_readCopy_25 ?_
    refine a_iconst C0 (3 : Int32) dX3_readCopy_28 (by decide) ?_
    refine a_aload_n C0 dX3_readCopy_29 rfl 1 rfl ?_
    refine a_get C0 inX3_readCopy_X3 0 rfl rfl 5 (by decide) lkX3_readCopy_30 (fun _ h9 => h9) (.int (f0_18 5)) rfl dX3_readCopy_30 ?_
    refine a_iconst C0 (1 : Int32) dX3_readCopy_33 (by decide) ?_
    refine a_isub C0 dX3_readCopy_34 ?_
    obtain ⟨f3_25, h_26, h⟩ := bd1_e h
    refine a_callVv C0 (wdX3_1 cA q0 q1 q2 q3 q4 q5 f0_18 f1 f2 f3_25 f4 f5) (As := [.int (3 : Int32), .int ((f0_18 5) - (1 : Int32))]) (rest := []) (ctX0_fail l D cA q3 q4 (3 : Int32) ((f0_18 5) - (1 : Int32)) f3_19 h_26) (cwV 2 C0.1.2.2.2.2 gX3_readCopy_X0_fail rfl rfl rfl hdX0_fail ⟨Nat.le_of_ble_eq_true rfl, Nat.le_of_ble_eq_true rfl⟩) [3] [0, 1, 2, 4, 5] [0, 1, 2, 5, 3, 4] rfl rfl rfl rfl (by decide) rfl rfl rfl rfl rfl rfl (Nat.le_of_ble_eq_true rfl) dX3_readCopy_35 ⟨Nat.zero_le _, Nat.zero_le _⟩ ?_
    refine a_lv [1, 2, 3, 4, 5, 0] (lv' := [(0, .ref q0), (1, .int a1), (2, .int a2), (3, .int a3), (4, .int a4), (5, .int x_21)]) rfl ?_
    exact bwX3_readCopy_38 C0 N a1 a2 a3 a4 f1 f2 x_21 f0_18 f3_25 f4 f5 h
set_option maxRecDepth 100000 in
theorem ctX3_readCopy (l : Launch) (D : va_G) (cA : ClassId) (q0 q1 q2 q3 q4 q5 : Nat) (N : Nat) (a1 : Int32) (a2 : Int32) (a3 : Int32) (a4 : Int32) (f0 : Nat → Int32) (f1 : Nat → Int32) (f2 : Nat → Int32) (f3 : Nat → Int32) (f4 : Nat → Int32) (f5 : Nat → Int32) {res : (Nat → Int32) × (Nat → Int32) × (Nat → Int32) × (Nat → Int32)} (h : pX3_readCopy N a1 a2 a3 a4 f0 f1 f2 f3 f4 f5 = some res) : Ctv l yX3_readCopy wsX3_readCopy (rmX3_readCopy) D vwCl [(cA, .int)] [.ref q0, .int a1, .int a2, .int a3, .int a4] (wdX3_1 cA q0 q1 q2 q3 q4 q5 f0 f1 f2 f3 f4 f5) (wdX3_1 cA q0 q1 q2 q3 q4 q5 res.1 f1 f2 res.2.1 res.2.2.1 res.2.2.2) 0 0 :=
  ct_n (S := Unit) (maxL := 7) (cc := cX3_readCopy) (by decide) rfl (Nat.le_of_ble_eq_true rfl) (fun p e s m below meth c _ C0 => bwX3_readCopy C0 N a1 a2 a3 a4 f0 f1 f2 f3 f4 f5 h)
/-! PackDrawer$PlainReader.readEnd -/
abbrev rmX3_readEnd : Room := { frames := 3, cells := 0, slots := 0, locals := 63 }
theorem lkX3_readEnd_25 : Cond.fieldLink RX3 25 RX3 (TX3 2).2.1 (TX3 2).2.2.1 ∈ wsX3_readEnd := by decide +kernel
theorem inX3_readEnd_X3 : ∀ w ∈ u_ws RX3 TX3 6, w ∈ wsX3_readEnd := by decide +kernel
theorem lkX3_readEnd_15 : Cond.fieldLink RX3 15 RX3 (TX3 1).2.1 (TX3 1).2.2.1 ∈ wsX3_readEnd := by decide +kernel
theorem lkX3_readEnd_30 : Cond.fieldLink RX3 30 RX3 (TX3 5).2.1 (TX3 5).2.2.1 ∈ wsX3_readEnd := by decide +kernel
def bfX3_readEnd_15 (N : Nat) (a1 : Int32) (a2 : Int32) (a3 : Int32) (a4 : Int32) (f1 : Nat → Int32) (f2 : Nat → Int32) (f4 : Nat → Int32) (f5 : Nat → Int32) (f0 : Nat → Int32) (f3 : Nat → Int32) : Option ((Nat → Int32) × (Nat → Int32)) := bd3 (pX3_take a3 f0 f1 f2 f3) (fun r_1 f0_2 f3_3 => bd1 (pX4_sumFrom N a4 f4 f5) (fun r_5 => if r_1 = r_5 then some (f0_2, f3_3) else bd1 (pX0_fail (4 : Int32) ((f0_2 5) - (1 : Int32)) f3_3) (fun f3_8 => some (f0_2, f3_8))))
def pX3_readEnd (N : Nat) (a1 : Int32) (a2 : Int32) (a3 : Int32) (a4 : Int32) (f0 : Nat → Int32) (f1 : Nat → Int32) (f2 : Nat → Int32) (f3 : Nat → Int32) (f4 : Nat → Int32) (f5 : Nat → Int32) : Option ((Nat → Int32) × (Nat → Int32)) := if a2 ≤ a1 then bfX3_readEnd_15 N a1 a2 a3 a4 f1 f2 f4 f5 f0 f3 else bd1 (pX0_fail (7 : Int32) a2 f3) (fun f3_11 => bfX3_readEnd_15 N a1 a2 a3 a4 f1 f2 f4 f5 f0 f3_11)
set_option maxHeartbeats 4000000 in
set_option maxRecDepth 100000 in
theorem bwX3_readEnd_15 {p : Program} {l : Launch} {e : Env} {s : State} {m : MethodId} {args : Array Value} {below : List Frame} {meth : Method} {c : Code} {D : va_G} {A : Nat → Prop} {cA : ClassId} {q0 q1 q2 q3 q4 q5 : Nat} {res : (Nat → Int32) × (Nat → Int32)} (C0 : cx p s m args meth c cX3_readEnd 6 RX3 wsX3_readEnd none D vwCl [(cA, .int)] A) (N : Nat) (a1 : Int32) (a2 : Int32) (a3 : Int32) (a4 : Int32) (f1 : Nat → Int32) (f2 : Nat → Int32) (f4 : Nat → Int32) (f5 : Nat → Int32) (f0 : Nat → Int32) (f3 : Nat → Int32) (h : bfX3_readEnd_15 N a1 a2 a3 a4 f1 f2 f4 f5  f0 f3 = some res) : At_ p l e (rmX3_readEnd) s m args below meth c D vwCl A 6 0 0 (Qv_ below args s D vwCl A (wdX3_1 cA q0 q1 q2 q3 q4 q5 res.1 f1 f2 res.2 f4 f5)) 15 [(0, .ref q0), (1, .int a1), (2, .int a2), (3, .int a3), (4, .int a4)] [] (wdX3_1 cA q0 q1 q2 q3 q4 q5 f0 f1 f2 f3 f4 f5) := by
  unfold bfX3_readEnd_15 at h
  refine a_aload_n C0 dX3_readEnd_15 rfl 0 rfl ?_
  refine a_iload_n C0 dX3_readEnd_16 rfl 3 rfl ?_
  obtain ⟨r_1, f0_2, f3_3, h_4, h⟩ := bd3_e h
  refine a_callVi C0 (wdX3_1 cA q0 q1 q2 q3 q4 q5 f0_2 f1 f2 f3_3 f4 f5) (As := [.int a3]) (rest := []) (ctX3_take l D cA q0 q1 q2 q3 q4 a3 f0 f1 f2 f3 h_4) (cwV 1 C0.1.2.2.2.2 gX3_readEnd_X3_take rfl rfl rfl hdX3_take ⟨Nat.le_of_ble_eq_true rfl, Nat.le_of_ble_eq_true rfl⟩) [0, 1, 2, 3] [4, 5] [2, 3, 4, 5, 0, 1] rfl rfl rfl rfl (by decide) rfl rfl rfl rfl rfl rfl (Nat.le_of_ble_eq_true rfl) dX3_readEnd_17 ⟨Nat.zero_le _, Nat.zero_le _⟩ ?_
  refine a_istore C0 [(5, .int r_1), (0, .ref q0), (1, .int a1), (2, .int a2), (3, .int a3), (4, .int a4)] dX3_readEnd_20 (by decide) rfl ?_
  refine a_iload C0 dX3_readEnd_22 0 rfl ?_
  refine a_aload_n C0 dX3_readEnd_24 rfl 1 rfl ?_
  refine a_get C0 inX3_readEnd_X3 0 rfl rfl 2 (by decide) lkX3_readEnd_25 (fun _ h9 => h9) (.ref q4) rfl dX3_readEnd_25 ?_
  refine a_iload C0 dX3_readEnd_28 5 rfl ?_
  obtain ⟨r_5, h_6, h⟩ := bd1_e h
  refine a_callVi C0 (wdX3_1 cA q0 q1 q2 q3 q4 q5 f0_2 f1 f2 f3_3 f4 f5) (As := [.int a4]) (rest := [.int r_1]) (ctX4_sumFrom l D cA q4 q5 N a4 f4 f5 h_6) (cwV 1 C0.1.2.2.2.2 gX3_readEnd_X4_sumFrom rfl rfl rfl hdX4_sumFrom ⟨Nat.le_of_ble_eq_true rfl, Nat.le_of_ble_eq_true rfl⟩) [4, 5] [0, 1, 2, 3] [0, 1, 2, 3, 4, 5] rfl rfl rfl rfl (by decide) rfl rfl rfl rfl rfl rfl (Nat.le_of_ble_eq_true rfl) dX3_readEnd_30 ⟨Nat.zero_le _, Nat.zero_le _⟩ ?_
  refine a_icmp_eq C0 50 dX3_readEnd_33 (by decide) (fun c_7 => ?_) (fun c_7 => ?_)
  · have h := it_ c_7 h
    obtain rfl := Option.some.inj h
    exact a_vret C0 dX3_readEnd_50 rfl
  · have h := ie_ c_7 h
    refine a_aload_n C0 dX3_readEnd_36 rfl 1 rfl ?_
    refine a_get C0 inX3_readEnd_X3 0 rfl rfl 1 (by decide) lkX3_readEnd_15 (fun _ h9 => h9) (.ref q3) rfl dX3_readEnd_37 ?_
    refine a_iconst C0 (4 : Int32) dX3_readEnd_40 (by decide) ?_
    refine a_aload_n C0 dX3_readEnd_41 rfl 1 rfl ?_
    refine a_get C0 inX3_readEnd_X3 0 rfl rfl 5 (by decide) lkX3_readEnd_30 (fun _ h9 => h9) (.int (f0_2 5)) rfl dX3_readEnd_42 ?_
    refine a_iconst C0 (1 : Int32) dX3_readEnd_45 (by decide) ?_
    refine a_isub C0 dX3_readEnd_46 ?_
    obtain ⟨f3_8, h_9, h⟩ := bd1_e h
    refine a_callVv C0 (wdX3_1 cA q0 q1 q2 q3 q4 q5 f0_2 f1 f2 f3_8 f4 f5) (As := [.int (4 : Int32), .int ((f0_2 5) - (1 : Int32))]) (rest := []) (ctX0_fail l D cA q3 q4 (4 : Int32) ((f0_2 5) - (1 : Int32)) f3_3 h_9) (cwV 2 C0.1.2.2.2.2 gX3_readEnd_X0_fail rfl rfl rfl hdX0_fail ⟨Nat.le_of_ble_eq_true rfl, Nat.le_of_ble_eq_true rfl⟩) [3] [0, 1, 2, 4, 5] [0, 1, 2, 5, 3, 4] rfl rfl rfl rfl (by decide) rfl rfl rfl rfl rfl rfl (Nat.le_of_ble_eq_true rfl) dX3_readEnd_47 ⟨Nat.zero_le _, Nat.zero_le _⟩ ?_
    obtain rfl := Option.some.inj h
    exact a_vret C0 dX3_readEnd_50 rfl
set_option maxHeartbeats 4000000 in
set_option maxRecDepth 100000 in
theorem bwX3_readEnd {p : Program} {l : Launch} {e : Env} {s : State} {m : MethodId} {args : Array Value} {below : List Frame} {meth : Method} {c : Code} {D : va_G} {A : Nat → Prop} {cA : ClassId} {q0 q1 q2 q3 q4 q5 : Nat} {res : (Nat → Int32) × (Nat → Int32)} (C0 : cx p s m args meth c cX3_readEnd 6 RX3 wsX3_readEnd none D vwCl [(cA, .int)] A) (N : Nat) (a1 : Int32) (a2 : Int32) (a3 : Int32) (a4 : Int32) (f0 : Nat → Int32) (f1 : Nat → Int32) (f2 : Nat → Int32) (f3 : Nat → Int32) (f4 : Nat → Int32) (f5 : Nat → Int32) (h : pX3_readEnd N a1 a2 a3 a4 f0 f1 f2 f3 f4 f5 = some res) : At_ p l e (rmX3_readEnd) s m args below meth c D vwCl A 6 0 0 (Qv_ below args s D vwCl A (wdX3_1 cA q0 q1 q2 q3 q4 q5 res.1 f1 f2 res.2 f4 f5)) 0 [(0, .ref q0), (1, .int a1), (2, .int a2), (3, .int a3), (4, .int a4)] [] (wdX3_1 cA q0 q1 q2 q3 q4 q5 f0 f1 f2 f3 f4 f5) := by
  unfold pX3_readEnd at h
  refine a_iload_n C0 dX3_readEnd_0 rfl 2 rfl ?_
  refine a_iload_n C0 dX3_readEnd_1 rfl 1 rfl ?_
  refine a_icmp_le C0 15 dX3_readEnd_2 (by decide) (fun c_10 => ?_) (fun c_10 => ?_)
  · have h := it_ c_10 h
    exact bwX3_readEnd_15 C0 N a1 a2 a3 a4 f1 f2 f4 f5 f0 f3 h
  · have h := ie_ c_10 h
    refine a_aload_n C0 dX3_readEnd_5 rfl 0 rfl ?_
    refine a_get C0 inX3_readEnd_X3 0 rfl rfl 1 (by decide) lkX3_readEnd_15 (fun _ h9 => h9) (.ref q3) rfl dX3_readEnd_6 ?_
    refine a_bipush C0 (7 : Int32) dX3_readEnd_9 (by decide) ?_
    refine a_iload_n C0 dX3_readEnd_11 rfl 2 rfl ?_
    obtain ⟨f3_11, h_12, h⟩ := bd1_e h
    refine a_callVv C0 (wdX3_1 cA q0 q1 q2 q3 q4 q5 f0 f1 f2 f3_11 f4 f5) (As := [.int (7 : Int32), .int a2]) (rest := []) (ctX0_fail l D cA q3 q4 (7 : Int32) a2 f3 h_12) (cwV 2 C0.1.2.2.2.2 gX3_readEnd_X0_fail rfl rfl rfl hdX0_fail ⟨Nat.le_of_ble_eq_true rfl, Nat.le_of_ble_eq_true rfl⟩) [3] [0, 1, 2, 4, 5] [0, 1, 2, 5, 3, 4] rfl rfl rfl rfl (by decide) rfl rfl rfl rfl rfl rfl (Nat.le_of_ble_eq_true rfl) dX3_readEnd_12 ⟨Nat.zero_le _, Nat.zero_le _⟩ ?_
    exact bwX3_readEnd_15 C0 N a1 a2 a3 a4 f1 f2 f4 f5 f0 f3_11 h
set_option maxRecDepth 100000 in
theorem ctX3_readEnd (l : Launch) (D : va_G) (cA : ClassId) (q0 q1 q2 q3 q4 q5 : Nat) (N : Nat) (a1 : Int32) (a2 : Int32) (a3 : Int32) (a4 : Int32) (f0 : Nat → Int32) (f1 : Nat → Int32) (f2 : Nat → Int32) (f3 : Nat → Int32) (f4 : Nat → Int32) (f5 : Nat → Int32) {res : (Nat → Int32) × (Nat → Int32)} (h : pX3_readEnd N a1 a2 a3 a4 f0 f1 f2 f3 f4 f5 = some res) : Ctv l yX3_readEnd wsX3_readEnd (rmX3_readEnd) D vwCl [(cA, .int)] [.ref q0, .int a1, .int a2, .int a3, .int a4] (wdX3_1 cA q0 q1 q2 q3 q4 q5 f0 f1 f2 f3 f4 f5) (wdX3_1 cA q0 q1 q2 q3 q4 q5 res.1 f1 f2 res.2 f4 f5) 0 0 :=
  ct_n (S := Unit) (maxL := 6) (cc := cX3_readEnd) (by decide) rfl (Nat.le_of_ble_eq_true rfl) (fun p e s m below meth c _ C0 => bwX3_readEnd C0 N a1 a2 a3 a4 f0 f1 f2 f3 f4 f5 h)
