/-! PackDrawer$AheadReader.enterPack -/
abbrev wdX1_0 (cA : ClassId) (q0 q1 q3 q4 q5 q6 q7 q8 q9 : Nat) (f0 : Nat → Int32) (f3 : Nat → Int32) (f4 : Nat → Int32) (f6 : Nat → Int32) (f7 : Nat → Int32) (f8 : Nat → Int32) (f9 : Nat → Int32) : va_W := [(q0, .inr (1, [.ref q1, .ref q3, .ref q4, .ref q6, .ref q7, .ref q8, .ref q9, .int (f0 7), .int (f0 8), .int (f0 9), .int (f0 10), .int (f0 11)])), (q3, .inr (0, [.ref q4, .int (f3 1), .int (f3 2), .int (f3 3), .int (f3 4), .int (f3 5), .int (f3 6), .int (f3 7), .int (f3 8), .int (f3 9), .int (f3 10), .int (f3 11)])), (q4, .inr (4, [.ref q5, .int (f4 1)])), (q6, .inl (cA, 7, .inl f6)), (q7, .inl (cA, 7, .inl f7)), (q8, .inl (cA, 7, .inl f8)), (q9, .inl (cA, 7, .inl f9))]
theorem hdX4_top : yX4_top.cls = RX4 ∧ yX4_top.cls ≠ "java/lang/invoke/MethodHandle" ∧ yX4_top.cls ≠ "java/lang/invoke/VarHandle" ∧ (parseMethodDescriptor yX4_top.desc).map (fun d => d.parameters.length) = some 0 := by decide +kernel
theorem hdX0_reachDepth : yX0_reachDepth.cls = RX0 ∧ yX0_reachDepth.cls ≠ "java/lang/invoke/MethodHandle" ∧ yX0_reachDepth.cls ≠ "java/lang/invoke/VarHandle" ∧ (parseMethodDescriptor yX0_reachDepth.desc).map (fun d => d.parameters.length) = some 1 := by decide +kernel
abbrev rmX1_enterPack : Room := { frames := 2, cells := 0, slots := 0, locals := 42 }
theorem lkX1_enterPack_43 : Cond.fieldLink RX1 43 RX1 (TX1 7).2.1 (TX1 7).2.2.1 ∈ wsX1_enterPack := by decide +kernel
theorem inX1_enterPack_X1 : ∀ w ∈ u_ws RX1 TX1 12, w ∈ wsX1_enterPack := by decide +kernel
theorem lkX1_enterPack_9 : Cond.fieldLink RX1 9 RX1 (TX1 3).2.1 (TX1 3).2.2.1 ∈ wsX1_enterPack := by decide +kernel
theorem lkX1_enterPack_38 : Cond.fieldLink RX1 38 RX1 (TX1 2).2.1 (TX1 2).2.2.1 ∈ wsX1_enterPack := by decide +kernel
theorem lkX1_enterPack_15 : Cond.fieldLink RX1 15 RX1 (TX1 4).2.1 (TX1 4).2.2.1 ∈ wsX1_enterPack := by decide +kernel
theorem lkX1_enterPack_18 : Cond.fieldLink RX1 18 RX1 (TX1 5).2.1 (TX1 5).2.2.1 ∈ wsX1_enterPack := by decide +kernel
theorem lkX1_enterPack_21 : Cond.fieldLink RX1 21 RX1 (TX1 6).2.1 (TX1 6).2.2.1 ∈ wsX1_enterPack := by decide +kernel
theorem lkX1_enterPack_28 : Cond.fieldLink RX1 28 RX1 (TX1 1).2.1 (TX1 1).2.2.1 ∈ wsX1_enterPack := by decide +kernel
def pX1_enterPack (a1 : Int32) (a2 : Int32) (a3 : Int32) (f0 : Nat → Int32) (f3 : Nat → Int32) (f4 : Nat → Int32) (f6 : Nat → Int32) (f7 : Nat → Int32) (f8 : Nat → Int32) (f9 : Nat → Int32) : Option ((Nat → Int32) × (Nat → Int32) × (Nat → Int32) × (Nat → Int32) × (Nat → Int32) × (Nat → Int32)) := if (f0 7) < (6 : Int32) then lt_ (upd f0 7 ((f0 7) + (1 : Int32))) (fun f0_2 => bd1 (pX4_top f4) (fun r_3 => gi_ (f0_2 7) 7 (lt_ (upd f6 (f0_2 7).toNatClampNeg r_3) (fun f6_6 => gi_ (f0_2 7) 7 (lt_ (upd f7 (f0_2 7).toNatClampNeg a1) (fun f7_8 => gi_ (f0_2 7) 7 (lt_ (upd f8 (f0_2 7).toNatClampNeg a2) (fun f8_10 => gi_ (f0_2 7) 7 (lt_ (upd f9 (f0_2 7).toNatClampNeg a3) (fun f9_12 => bd1 (pX0_reachDepth (f0_2 7) f3) (fun f3_13 => some (f0_2, f3_13, f6_6, f7_8, f8_10, f9_12)))))))))))) else some (f0, f3, f6, f7, f8, f9)
set_option maxHeartbeats 4000000 in
set_option maxRecDepth 100000 in
theorem bwX1_enterPack {p : Program} {l : Launch} {e : Env} {s : State} {m : MethodId} {args : Array Value} {below : List Frame} {meth : Method} {c : Code} {D : va_G} {A : Nat → Prop} {cA : ClassId} {q0 q1 q3 q4 q5 q6 q7 q8 q9 : Nat} {res : (Nat → Int32) × (Nat → Int32) × (Nat → Int32) × (Nat → Int32) × (Nat → Int32) × (Nat → Int32)} (C0 : cx p s m args meth c cX1_enterPack 4 RX1 wsX1_enterPack none D vwCl [(cA, .int)] A) (a1 : Int32) (a2 : Int32) (a3 : Int32) (f0 : Nat → Int32) (f3 : Nat → Int32) (f4 : Nat → Int32) (f6 : Nat → Int32) (f7 : Nat → Int32) (f8 : Nat → Int32) (f9 : Nat → Int32) (h : pX1_enterPack a1 a2 a3 f0 f3 f4 f6 f7 f8 f9 = some res) : At_ p l e (rmX1_enterPack) s m args below meth c D vwCl A 4 0 0 (Qv_ below args s D vwCl A (wdX1_0 cA q0 q1 q3 q4 q5 q6 q7 q8 q9 res.1 res.2.1 f4 res.2.2.1 res.2.2.2.1 res.2.2.2.2.1 res.2.2.2.2.2)) 0 [(0, .ref q0), (1, .int a1), (2, .int a2), (3, .int a3)] [] (wdX1_0 cA q0 q1 q3 q4 q5 q6 q7 q8 q9 f0 f3 f4 f6 f7 f8 f9) := by
  unfold pX1_enterPack at h
  refine a_aload_n C0 dX1_enterPack_0 rfl 0 rfl ?_
  refine a_get C0 inX1_enterPack_X1 0 rfl rfl 7 (by decide) lkX1_enterPack_43 (fun _ h9 => h9) (.int (f0 7)) rfl dX1_enterPack_1 ?_
  refine a_bipush C0 (6 : Int32) dX1_enterPack_4 (by decide) ?_
  refine a_icmp_lt C0 10 dX1_enterPack_6 (by decide) (fun c_1 => ?_) (fun c_1 => ?_)
  · have h := it_ c_1 h
    refine a_aload_n C0 dX1_enterPack_10 rfl 0 rfl ?_
    refine a_dup C0 dX1_enterPack_11 rfl ?_
    refine a_get C0 inX1_enterPack_X1 0 rfl rfl 7 (by decide) lkX1_enterPack_43 (fun _ h9 => h9) (.int (f0 7)) rfl dX1_enterPack_12 ?_
    refine a_iconst C0 (1 : Int32) dX1_enterPack_15 (by decide) ?_
    refine a_iadd C0 dX1_enterPack_16 ?_
    obtain ⟨f0_2, ef0_2, h⟩ := lt_e h
    refine a_put C0 inX1_enterPack_X1 tyX1 tyX1_ok nmX1 0 rfl rfl 7 (by decide) lkX1_enterPack_43 (fun _ h9 => h9) rfl (ty := .int) (v := .int ((f0 7) + (1 : Int32))) (by decide +kernel) rfl rfl (Nat.le_of_ble_eq_true rfl) dX1_enterPack_17 (wdX1_0 cA q0 q1 q3 q4 q5 q6 q7 q8 q9 f0_2 f3 f4 f6 f7 f8 f9) (by subst ef0_2; rfl) ?_
    refine a_aload_n C0 dX1_enterPack_20 rfl 0 rfl ?_
    refine a_get C0 inX1_enterPack_X1 0 rfl rfl 3 (by decide) lkX1_enterPack_9 (fun _ h9 => h9) (.ref q6) rfl dX1_enterPack_21 ?_
    refine a_aload_n C0 dX1_enterPack_24 rfl 0 rfl ?_
    refine a_get C0 inX1_enterPack_X1 0 rfl rfl 7 (by decide) lkX1_enterPack_43 (fun _ h9 => h9) (.int (f0_2 7)) rfl dX1_enterPack_25 ?_
    refine a_aload_n C0 dX1_enterPack_28 rfl 0 rfl ?_
    refine a_get C0 inX1_enterPack_X1 0 rfl rfl 2 (by decide) lkX1_enterPack_38 (fun _ h9 => h9) (.ref q4) rfl dX1_enterPack_29 ?_
    obtain ⟨r_3, h_4, h⟩ := bd1_e h
    refine a_callVi C0 (wdX1_0 cA q0 q1 q3 q4 q5 q6 q7 q8 q9 f0_2 f3 f4 f6 f7 f8 f9) (As := []) (rest := [.int (f0_2 7), .ref q6]) (ctX4_top l D cA q4 q5 f4 h_4) (cwV 0 C0.1.2.2.2.2 gX1_enterPack_X4_top rfl rfl rfl hdX4_top ⟨Nat.le_of_ble_eq_true rfl, Nat.le_of_ble_eq_true rfl⟩) [2] [0, 1, 3, 4, 5, 6] [0, 1, 6, 2, 3, 4, 5] rfl rfl rfl rfl (by decide) rfl rfl rfl rfl rfl rfl (Nat.le_of_ble_eq_true rfl) dX1_enterPack_32 ⟨Nat.zero_le _, Nat.zero_le _⟩ ?_
    obtain ⟨g_5, h⟩ := gi_e h
    obtain ⟨f6_6, ef6_6, h⟩ := lt_e h
    refine a_iast C0 3 0 rfl rfl g_5 dX1_enterPack_35 (wdX1_0 cA q0 q1 q3 q4 q5 q6 q7 q8 q9 f0_2 f3 f4 f6_6 f7 f8 f9) (by subst ef6_6; rfl) ?_
    refine a_aload_n C0 dX1_enterPack_36 rfl 0 rfl ?_
    refine a_get C0 inX1_enterPack_X1 0 rfl rfl 4 (by decide) lkX1_enterPack_15 (fun _ h9 => h9) (.ref q7) rfl dX1_enterPack_37 ?_
    refine a_aload_n C0 dX1_enterPack_40 rfl 0 rfl ?_
    refine a_get C0 inX1_enterPack_X1 0 rfl rfl 7 (by decide) lkX1_enterPack_43 (fun _ h9 => h9) (.int (f0_2 7)) rfl dX1_enterPack_41 ?_
    refine a_iload_n C0 dX1_enterPack_44 rfl 1 rfl ?_
    obtain ⟨g_7, h⟩ := gi_e h
    obtain ⟨f7_8, ef7_8, h⟩ := lt_e h
    refine a_iast C0 4 0 rfl rfl g_7 dX1_enterPack_45 (wdX1_0 cA q0 q1 q3 q4 q5 q6 q7 q8 q9 f0_2 f3 f4 f6_6 f7_8 f8 f9) (by subst ef7_8; rfl) ?_
    refine a_aload_n C0 dX1_enterPack_46 rfl 0 rfl ?_
    refine a_get C0 inX1_enterPack_X1 0 rfl rfl 5 (by decide) lkX1_enterPack_18 (fun _ h9 => h9) (.ref q8) rfl dX1_enterPack_47 ?_
    refine a_aload_n C0 dX1_enterPack_50 rfl 0 rfl ?_
    refine a_get C0 inX1_enterPack_X1 0 rfl rfl 7 (by decide) lkX1_enterPack_43 (fun _ h9 => h9) (.int (f0_2 7)) rfl dX1_enterPack_51 ?_
    refine a_iload_n C0 dX1_enterPack_54 rfl 2 rfl ?_
    obtain ⟨g_9, h⟩ := gi_e h
    obtain ⟨f8_10, ef8_10, h⟩ := lt_e h
    refine a_iast C0 5 0 rfl rfl g_9 dX1_enterPack_55 (wdX1_0 cA q0 q1 q3 q4 q5 q6 q7 q8 q9 f0_2 f3 f4 f6_6 f7_8 f8_10 f9) (by subst ef8_10; rfl) ?_
    refine a_aload_n C0 dX1_enterPack_56 rfl 0 rfl ?_
    refine a_get C0 inX1_enterPack_X1 0 rfl rfl 6 (by decide) lkX1_enterPack_21 (fun _ h9 => h9) (.ref q9) rfl dX1_enterPack_57 ?_
    refine a_aload_n C0 dX1_enterPack_60 rfl 0 rfl ?_
    refine a_get C0 inX1_enterPack_X1 0 rfl rfl 7 (by decide) lkX1_enterPack_43 (fun _ h9 => h9) (.int (f0_2 7)) rfl dX1_enterPack_61 ?_
    refine a_iload_n C0 dX1_enterPack_64 rfl 3 rfl ?_
    obtain ⟨g_11, h⟩ := gi_e h
    obtain ⟨f9_12, ef9_12, h⟩ := lt_e h
    refine a_iast C0 6 0 rfl rfl g_11 dX1_enterPack_65 (wdX1_0 cA q0 q1 q3 q4 q5 q6 q7 q8 q9 f0_2 f3 f4 f6_6 f7_8 f8_10 f9_12) (by subst ef9_12; rfl) ?_
    refine a_aload_n C0 dX1_enterPack_66 rfl 0 rfl ?_
    refine a_get C0 inX1_enterPack_X1 0 rfl rfl 1 (by decide) lkX1_enterPack_28 (fun _ h9 => h9) (.ref q3) rfl dX1_enterPack_67 ?_
    refine a_aload_n C0 dX1_enterPack_70 rfl 0 rfl ?_
    refine a_get C0 inX1_enterPack_X1 0 rfl rfl 7 (by decide) lkX1_enterPack_43 (fun _ h9 => h9) (.int (f0_2 7)) rfl dX1_enterPack_71 ?_
    obtain ⟨f3_13, h_14, h⟩ := bd1_e h
    refine a_callVv C0 (wdX1_0 cA q0 q1 q3 q4 q5 q6 q7 q8 q9 f0_2 f3_13 f4 f6_6 f7_8 f8_10 f9_12) (As := [.int (f0_2 7)]) (rest := []) (ctX0_reachDepth l D cA q3 q4 (f0_2 7) f3 h_14) (cwV 1 C0.1.2.2.2.2 gX1_enterPack_X0_reachDepth rfl rfl rfl hdX0_reachDepth ⟨Nat.le_of_ble_eq_true rfl, Nat.le_of_ble_eq_true rfl⟩) [1] [0, 2, 3, 4, 5, 6] [0, 6, 1, 2, 3, 4, 5] rfl rfl rfl rfl (by decide) rfl rfl rfl rfl rfl rfl (Nat.le_of_ble_eq_true rfl) dX1_enterPack_74 ⟨Nat.zero_le _, Nat.zero_le _⟩ ?_
    obtain rfl := Option.some.inj h
    exact a_vret C0 dX1_enterPack_77 rfl
  · have h := ie_ c_1 h
    obtain rfl := Option.some.inj h
    exact a_vret C0 dX1_enterPack_9 rfl
set_option maxRecDepth 100000 in
theorem ctX1_enterPack (l : Launch) (D : va_G) (cA : ClassId) (q0 q1 q3 q4 q5 q6 q7 q8 q9 : Nat) (a1 : Int32) (a2 : Int32) (a3 : Int32) (f0 : Nat → Int32) (f3 : Nat → Int32) (f4 : Nat → Int32) (f6 : Nat → Int32) (f7 : Nat → Int32) (f8 : Nat → Int32) (f9 : Nat → Int32) {res : (Nat → Int32) × (Nat → Int32) × (Nat → Int32) × (Nat → Int32) × (Nat → Int32) × (Nat → Int32)} (h : pX1_enterPack a1 a2 a3 f0 f3 f4 f6 f7 f8 f9 = some res) : Ctv l yX1_enterPack wsX1_enterPack (rmX1_enterPack) D vwCl [(cA, .int)] [.ref q0, .int a1, .int a2, .int a3] (wdX1_0 cA q0 q1 q3 q4 q5 q6 q7 q8 q9 f0 f3 f4 f6 f7 f8 f9) (wdX1_0 cA q0 q1 q3 q4 q5 q6 q7 q8 q9 res.1 res.2.1 f4 res.2.2.1 res.2.2.2.1 res.2.2.2.2.1 res.2.2.2.2.2) 0 0 :=
  ct_n (S := Unit) (maxL := 4) (cc := cX1_enterPack) (by decide) rfl (Nat.le_of_ble_eq_true rfl) (fun p e s m below meth c _ C0 => bwX1_enterPack C0 a1 a2 a3 f0 f3 f4 f6 f7 f8 f9 h)
/-! PackDrawer$AheadReader.isOutermost -/
abbrev wdX1_1 (cA : ClassId) (q0 q1 q3 q4 q6 q7 q8 q9 : Nat) (f0 : Nat → Int32) : va_W := [(q0, .inr (1, [.ref q1, .ref q3, .ref q4, .ref q6, .ref q7, .ref q8, .ref q9, .int (f0 7), .int (f0 8), .int (f0 9), .int (f0 10), .int (f0 11)]))]
abbrev rmX1_isOutermost : Room := { frames := 0, cells := 0, slots := 0, locals := 0 }
theorem lkX1_isOutermost_43 : Cond.fieldLink RX1 43 RX1 (TX1 7).2.1 (TX1 7).2.2.1 ∈ wsX1_isOutermost := by decide +kernel
theorem inX1_isOutermost_X1 : ∀ w ∈ u_ws RX1 TX1 12, w ∈ wsX1_isOutermost := by decide +kernel
def pX1_isOutermost (f0 : Nat → Int32) : Option (Int32) := if (f0 7) = (1 : Int32) then some (1 : Int32) else some (0 : Int32)
set_option maxHeartbeats 4000000 in
set_option maxRecDepth 100000 in
theorem bwX1_isOutermost {p : Program} {l : Launch} {e : Env} {s : State} {m : MethodId} {args : Array Value} {below : List Frame} {meth : Method} {c : Code} {D : va_G} {A : Nat → Prop} {cA : ClassId} {q0 q1 q3 q4 q6 q7 q8 q9 : Nat} {res : Int32} (C0 : cx p s m args meth c cX1_isOutermost 1 RX1 wsX1_isOutermost (some .boolean) D vwCl [(cA, .int)] A) (f0 : Nat → Int32) (h : pX1_isOutermost f0 = some res) : At_ p l e (rmX1_isOutermost) s m args below meth c D vwCl A 1 0 0 (Qi_ below args s D vwCl A (wdX1_1 cA q0 q1 q3 q4 q6 q7 q8 q9 f0) res) 0 [(0, .ref q0)] [] (wdX1_1 cA q0 q1 q3 q4 q6 q7 q8 q9 f0) := by
  unfold pX1_isOutermost at h
  refine a_aload_n C0 dX1_isOutermost_0 rfl 0 rfl ?_
  refine a_get C0 inX1_isOutermost_X1 0 rfl rfl 7 (by decide) lkX1_isOutermost_43 (fun _ h9 => h9) (.int (f0 7)) rfl dX1_isOutermost_1 ?_
  refine a_iconst C0 (1 : Int32) dX1_isOutermost_4 (by decide) ?_
  refine a_icmp_ne C0 12 dX1_isOutermost_5 (by decide) (fun c_1 => ?_) (fun c_1 => ?_)
  · have h := ie_ c_1 h
    refine a_iconst C0 (0 : Int32) dX1_isOutermost_12 (by decide) ?_
    obtain rfl := Option.some.inj h
    exact a_zret C0 dX1_isOutermost_13 rfl rfl rfl
  · have h := it_ c_1 h
    refine a_iconst C0 (1 : Int32) dX1_isOutermost_8 (by decide) ?_
    refine a_goto C0 13 dX1_isOutermost_9 (by decide) ?_
    obtain rfl := Option.some.inj h
    exact a_zret C0 dX1_isOutermost_13 rfl rfl rfl
set_option maxRecDepth 100000 in
theorem ctX1_isOutermost (l : Launch) (D : va_G) (cA : ClassId) (q0 q1 q3 q4 q6 q7 q8 q9 : Nat) (f0 : Nat → Int32) {res : Int32} (h : pX1_isOutermost f0 = some res) : Cti l yX1_isOutermost wsX1_isOutermost (rmX1_isOutermost) D vwCl [(cA, .int)] [.ref q0] (wdX1_1 cA q0 q1 q3 q4 q6 q7 q8 q9 f0) (wdX1_1 cA q0 q1 q3 q4 q6 q7 q8 q9 f0) 0 0 res :=
  ct_i (maxL := 1) (cc := cX1_isOutermost) (by decide) rfl (Nat.le_of_ble_eq_true rfl) (fun p e s m below meth c C0 => bwX1_isOutermost C0 f0 h)
/-! PackDrawer$AheadReader.stand -/
abbrev wdX1_2 (cA : ClassId) (q0 q1 q3 q4 q6 q7 q8 q9 : Nat) (f0 : Nat → Int32) (f3 : Nat → Int32) (f7 : Nat → Int32) (f8 : Nat → Int32) : va_W := [(q0, .inr (1, [.ref q1, .ref q3, .ref q4, .ref q6, .ref q7, .ref q8, .ref q9, .int (f0 7), .int (f0 8), .int (f0 9), .int (f0 10), .int (f0 11)])), (q3, .inr (0, [.ref q4, .int (f3 1), .int (f3 2), .int (f3 3), .int (f3 4), .int (f3 5), .int (f3 6), .int (f3 7), .int (f3 8), .int (f3 9), .int (f3 10), .int (f3 11)])), (q7, .inl (cA, 7, .inl f7)), (q8, .inl (cA, 7, .inl f8))]
theorem hdX1_isOutermost : yX1_isOutermost.cls = RX1 ∧ yX1_isOutermost.cls ≠ "java/lang/invoke/MethodHandle" ∧ yX1_isOutermost.cls ≠ "java/lang/invoke/VarHandle" ∧ (parseMethodDescriptor yX1_isOutermost.desc).map (fun d => d.parameters.length) = some 0 := by decide +kernel
abbrev rmX1_stand : Room := { frames := 1, cells := 0, slots := 0, locals := 22 }
theorem lkX1_stand_18 : Cond.fieldLink RX1 18 RX1 (TX1 5).2.1 (TX1 5).2.2.1 ∈ wsX1_stand := by decide +kernel
theorem inX1_stand_X1 : ∀ w ∈ u_ws RX1 TX1 12, w ∈ wsX1_stand := by decide +kernel
theorem lkX1_stand_43 : Cond.fieldLink RX1 43 RX1 (TX1 7).2.1 (TX1 7).2.2.1 ∈ wsX1_stand := by decide +kernel
theorem lkX1_stand_15 : Cond.fieldLink RX1 15 RX1 (TX1 4).2.1 (TX1 4).2.2.1 ∈ wsX1_stand := by decide +kernel
theorem lkX1_stand_47 : Cond.fieldLink RX1 47 RX1 (TX1 8).2.1 (TX1 8).2.2.1 ∈ wsX1_stand := by decide +kernel
theorem lkX1_stand_28 : Cond.fieldLink RX1 28 RX1 (TX1 1).2.1 (TX1 1).2.2.1 ∈ wsX1_stand := by decide +kernel
def bfX1_stand_36 (a1 : Int32) (f0 : Nat → Int32) (f7 : Nat → Int32) (f8 : Nat → Int32) (s1 : Int32) (f3 : Nat → Int32) : Option (Int32 × (Nat → Int32)) := gi_ (f0 7) 7 (bd1 (pX0_fail s1 (f8 (f0 7).toNatClampNeg) f3) (fun f3_2 => some ((0 : Int32), f3_2)))
def pX1_stand (a1 : Int32) (f0 : Nat → Int32) (f3 : Nat → Int32) (f7 : Nat → Int32) (f8 : Nat → Int32) : Option (Int32 × (Nat → Int32)) := gi_ (f0 7) 7 (if ((f7 (f0 7).toNatClampNeg) - (f0 8)) < a1 then bd1 (pX1_isOutermost f0) (fun r_6 => if r_6 = 0 then bfX1_stand_36 a1 f0 f7 f8 (2 : Int32) f3 else bfX1_stand_36 a1 f0 f7 f8 (1 : Int32) f3) else some ((1 : Int32), f3))
set_option maxHeartbeats 4000000 in
set_option maxRecDepth 100000 in
theorem bwX1_stand_36 {p : Program} {l : Launch} {e : Env} {s : State} {m : MethodId} {args : Array Value} {below : List Frame} {meth : Method} {c : Code} {D : va_G} {A : Nat → Prop} {cA : ClassId} {q0 q1 q3 q4 q6 q7 q8 q9 : Nat} {res : Int32 × (Nat → Int32)} (C0 : cx p s m args meth c cX1_stand 2 RX1 wsX1_stand (some .boolean) D vwCl [(cA, .int)] A) (a1 : Int32) (f0 : Nat → Int32) (f7 : Nat → Int32) (f8 : Nat → Int32) (s1 : Int32) (f3 : Nat → Int32) (h : bfX1_stand_36 a1 f0 f7 f8  s1 f3 = some res) : At_ p l e (rmX1_stand) s m args below meth c D vwCl A 2 0 0 (Qi_ below args s D vwCl A (wdX1_2 cA q0 q1 q3 q4 q6 q7 q8 q9 f0 res.2 f7 f8) res.1) 36 [(0, .ref q0), (1, .int a1)] [.int s1, .ref q3] (wdX1_2 cA q0 q1 q3 q4 q6 q7 q8 q9 f0 f3 f7 f8) := by
  unfold bfX1_stand_36 at h
  refine a_aload_n C0 dX1_stand_36 rfl 0 rfl ?_
  refine a_get C0 inX1_stand_X1 0 rfl rfl 5 (by decide) lkX1_stand_18 (fun _ h9 => h9) (.ref q8) rfl dX1_stand_37 ?_
  refine a_aload_n C0 dX1_stand_40 rfl 0 rfl ?_
  refine a_get C0 inX1_stand_X1 0 rfl rfl 7 (by decide) lkX1_stand_43 (fun _ h9 => h9) (.int (f0 7)) rfl dX1_stand_41 ?_
  obtain ⟨g_1, h⟩ := gi_e h
  refine a_iald C0 3 0 rfl rfl g_1 dX1_stand_44 ?_
  obtain ⟨f3_2, h_3, h⟩ := bd1_e h
  refine a_callVv C0 (wdX1_2 cA q0 q1 q3 q4 q6 q7 q8 q9 f0 f3_2 f7 f8) (As := [.int s1, .int (f8 (f0 7).toNatClampNeg)]) (rest := []) (ctX0_fail l D cA q3 q4 s1 (f8 (f0 7).toNatClampNeg) f3 h_3) (cwV 2 C0.1.2.2.2.2 gX1_stand_X0_fail rfl rfl rfl hdX0_fail ⟨Nat.le_of_ble_eq_true rfl, Nat.le_of_ble_eq_true rfl⟩) [1] [0, 2, 3] [0, 3, 1, 2] rfl rfl rfl rfl (by decide) rfl rfl rfl rfl rfl rfl (Nat.le_of_ble_eq_true rfl) dX1_stand_45 ⟨Nat.zero_le _, Nat.zero_le _⟩ ?_
  refine a_iconst C0 (0 : Int32) dX1_stand_48 (by decide) ?_
  obtain rfl := Option.some.inj h
  exact a_zret C0 dX1_stand_49 rfl rfl rfl
set_option maxHeartbeats 4000000 in
set_option maxRecDepth 100000 in
theorem bwX1_stand {p : Program} {l : Launch} {e : Env} {s : State} {m : MethodId} {args : Array Value} {below : List Frame} {meth : Method} {c : Code} {D : va_G} {A : Nat → Prop} {cA : ClassId} {q0 q1 q3 q4 q6 q7 q8 q9 : Nat} {res : Int32 × (Nat → Int32)} (C0 : cx p s m args meth c cX1_stand 2 RX1 wsX1_stand (some .boolean) D vwCl [(cA, .int)] A) (a1 : Int32) (f0 : Nat → Int32) (f3 : Nat → Int32) (f7 : Nat → Int32) (f8 : Nat → Int32) (h : pX1_stand a1 f0 f3 f7 f8 = some res) : At_ p l e (rmX1_stand) s m args below meth c D vwCl A 2 0 0 (Qi_ below args s D vwCl A (wdX1_2 cA q0 q1 q3 q4 q6 q7 q8 q9 f0 res.2 f7 f8) res.1) 0 [(0, .ref q0), (1, .int a1)] [] (wdX1_2 cA q0 q1 q3 q4 q6 q7 q8 q9 f0 f3 f7 f8) := by
  unfold pX1_stand at h
  refine a_iload_n C0 dX1_stand_0 rfl 1 rfl ?_
  refine a_aload_n C0 dX1_stand_1 rfl 0 rfl ?_
  refine a_get C0 inX1_stand_X1 0 rfl rfl 4 (by decide) lkX1_stand_15 (fun _ h9 => h9) (.ref q7) rfl dX1_stand_2 ?_
  refine a_aload_n C0 dX1_stand_5 rfl 0 rfl ?_
  refine a_get C0 inX1_stand_X1 0 rfl rfl 7 (by decide) lkX1_stand_43 (fun _ h9 => h9) (.int (f0 7)) rfl dX1_stand_6 ?_
  obtain ⟨g_4, h⟩ := gi_e h
  refine a_iald C0 2 0 rfl rfl g_4 dX1_stand_9 ?_
  refine a_aload_n C0 dX1_stand_10 rfl 0 rfl ?_
  refine a_get C0 inX1_stand_X1 0 rfl rfl 8 (by decide) lkX1_stand_47 (fun _ h9 => h9) (.int (f0 8)) rfl dX1_stand_11 ?_
  refine a_isub C0 dX1_stand_14 ?_
  refine a_icmp_gt C0 20 dX1_stand_15 (by decide) (fun c_5 => ?_) (fun c_5 => ?_)
  · have h := it_ c_5 h
    refine a_aload_n C0 dX1_stand_20 rfl 0 rfl ?_
    refine a_get C0 inX1_stand_X1 0 rfl rfl 1 (by decide) lkX1_stand_28 (fun _ h9 => h9) (.ref q3) rfl dX1_stand_21 ?_
    refine a_aload_n C0 dX1_stand_24 rfl 0 rfl ?_
    obtain ⟨r_6, h_7, h⟩ := bd1_e h
    refine a_callVi C0 (wdX1_2 cA q0 q1 q3 q4 q6 q7 q8 q9 f0 f3 f7 f8) (As := []) (rest := [.ref q3]) (ctX1_isOutermost l D cA q0 q1 q3 q4 q6 q7 q8 q9 f0 h_7) (cwV 0 C0.1.2.2.2.2 gX1_stand_X1_isOutermost rfl rfl rfl hdX1_isOutermost ⟨Nat.le_of_ble_eq_true rfl, Nat.le_of_ble_eq_true rfl⟩) [0] [1, 2, 3] [3, 0, 1, 2] rfl rfl rfl rfl (by decide) rfl rfl rfl rfl rfl rfl (Nat.le_of_ble_eq_true rfl) dX1_stand_25 ⟨Nat.zero_le _, Nat.zero_le _⟩ ?_
    refine a_if_eq C0 35 dX1_stand_28 (by decide) (fun c_8 => ?_) (fun c_8 => ?_)
    · have h := it_ c_8 h
      refine a_iconst C0 (2 : Int32) dX1_stand_35 (by decide) ?_
      exact bwX1_stand_36 C0 a1 f0 f7 f8 (2 : Int32) f3 h
    · have h := ie_ c_8 h
      refine a_iconst C0 (1 : Int32) dX1_stand_31 (by decide) ?_
      refine a_goto C0 36 dX1_stand_32 (by decide) ?_
      exact bwX1_stand_36 C0 a1 f0 f7 f8 (1 : Int32) f3 h
  · have h := ie_ c_5 h
    refine a_iconst C0 (1 : Int32) dX1_stand_18 (by decide) ?_
    obtain rfl := Option.some.inj h
    exact a_zret C0 dX1_stand_19 rfl rfl rfl
set_option maxRecDepth 100000 in
theorem ctX1_stand (l : Launch) (D : va_G) (cA : ClassId) (q0 q1 q3 q4 q6 q7 q8 q9 : Nat) (a1 : Int32) (f0 : Nat → Int32) (f3 : Nat → Int32) (f7 : Nat → Int32) (f8 : Nat → Int32) {res : Int32 × (Nat → Int32)} (h : pX1_stand a1 f0 f3 f7 f8 = some res) : Cti l yX1_stand wsX1_stand (rmX1_stand) D vwCl [(cA, .int)] [.ref q0, .int a1] (wdX1_2 cA q0 q1 q3 q4 q6 q7 q8 q9 f0 f3 f7 f8) (wdX1_2 cA q0 q1 q3 q4 q6 q7 q8 q9 f0 res.2 f7 f8) 0 0 res.1 :=
  ct_i (maxL := 2) (cc := cX1_stand) (by decide) rfl (Nat.le_of_ble_eq_true rfl) (fun p e s m below meth c C0 => bwX1_stand C0 a1 f0 f3 f7 f8 h)
/-! PackDrawer$AheadReader.beginItem -/
abbrev wdX1_3 (cA : ClassId) (q0 q1 q2 q3 q4 q6 q7 q8 q9 : Nat) (f0 : Nat → Int32) (f1 : Nat → Int32) (f2 : Nat → Int32) (f3 : Nat → Int32) (f7 : Nat → Int32) (f8 : Nat → Int32) : va_W := [(q0, .inr (1, [.ref q1, .ref q3, .ref q4, .ref q6, .ref q7, .ref q8, .ref q9, .int (f0 7), .int (f0 8), .int (f0 9), .int (f0 10), .int (f0 11)])), (q1, .inr (5, [.ref q2, .int (f1 1)])), (q2, .inl (cA, 160, .inl f2)), (q3, .inr (0, [.ref q4, .int (f3 1), .int (f3 2), .int (f3 3), .int (f3 4), .int (f3 5), .int (f3 6), .int (f3 7), .int (f3 8), .int (f3 9), .int (f3 10), .int (f3 11)])), (q7, .inl (cA, 7, .inl f7)), (q8, .inl (cA, 7, .inl f8))]
theorem hdX1_stand : yX1_stand.cls = RX1 ∧ yX1_stand.cls ≠ "java/lang/invoke/MethodHandle" ∧ yX1_stand.cls ≠ "java/lang/invoke/VarHandle" ∧ (parseMethodDescriptor yX1_stand.desc).map (fun d => d.parameters.length) = some 1 := by decide +kernel
theorem hdX0_beginItem : yX0_beginItem.cls = RX0 ∧ yX0_beginItem.cls ≠ "java/lang/invoke/MethodHandle" ∧ yX0_beginItem.cls ≠ "java/lang/invoke/VarHandle" ∧ (parseMethodDescriptor yX0_beginItem.desc).map (fun d => d.parameters.length) = some 1 := by decide +kernel
theorem hdX5_byteAt : yX5_byteAt.cls = RX5 ∧ yX5_byteAt.cls ≠ "java/lang/invoke/MethodHandle" ∧ yX5_byteAt.cls ≠ "java/lang/invoke/VarHandle" ∧ (parseMethodDescriptor yX5_byteAt.desc).map (fun d => d.parameters.length) = some 1 := by decide +kernel
abbrev rmX1_beginItem : Room := { frames := 2, cells := 0, slots := 0, locals := 43 }
theorem lkX1_beginItem_28 : Cond.fieldLink RX1 28 RX1 (TX1 1).2.1 (TX1 1).2.2.1 ∈ wsX1_beginItem := by decide +kernel
theorem inX1_beginItem_X1 : ∀ w ∈ u_ws RX1 TX1 12, w ∈ wsX1_beginItem := by decide +kernel
theorem lkX1_beginItem_47 : Cond.fieldLink RX1 47 RX1 (TX1 8).2.1 (TX1 8).2.2.1 ∈ wsX1_beginItem := by decide +kernel
theorem lkX1_beginItem_24 : Cond.fieldLink RX1 24 RX1 (TX1 0).2.1 (TX1 0).2.2.1 ∈ wsX1_beginItem := by decide +kernel
def pX1_beginItem (f0 : Nat → Int32) (f1 : Nat → Int32) (f2 : Nat → Int32) (f3 : Nat → Int32) (f7 : Nat → Int32) (f8 : Nat → Int32) : Option (Int32 × (Nat → Int32) × (Nat → Int32)) := bd2 (pX1_stand (1 : Int32) f0 f3 f7 f8) (fun r_1 f3_2 => if r_1 = 0 then some ((0 : Int32), f0, f3_2) else bd2 (pX0_beginItem (f0 8) f3_2) (fun r_5 f3_6 => if r_5 = 0 then some ((0 : Int32), f0, f3_6) else lt_ (upd f0 8 ((f0 8) + (1 : Int32))) (fun f0_9 => bd1 (pX5_byteAt ((f0_9 8) - (1 : Int32)) f1 f2) (fun r_10 => some (r_10, f0_9, f3_6)))))
set_option maxHeartbeats 4000000 in
set_option maxRecDepth 100000 in
theorem bwX1_beginItem {p : Program} {l : Launch} {e : Env} {s : State} {m : MethodId} {args : Array Value} {below : List Frame} {meth : Method} {c : Code} {D : va_G} {A : Nat → Prop} {cA : ClassId} {q0 q1 q2 q3 q4 q6 q7 q8 q9 : Nat} {res : Int32 × (Nat → Int32) × (Nat → Int32)} (C0 : cx p s m args meth c cX1_beginItem 1 RX1 wsX1_beginItem (some .int) D vwCl [(cA, .int)] A) (f0 : Nat → Int32) (f1 : Nat → Int32) (f2 : Nat → Int32) (f3 : Nat → Int32) (f7 : Nat → Int32) (f8 : Nat → Int32) (h : pX1_beginItem f0 f1 f2 f3 f7 f8 = some res) : At_ p l e (rmX1_beginItem) s m args below meth c D vwCl A 1 0 0 (Qi_ below args s D vwCl A (wdX1_3 cA q0 q1 q2 q3 q4 q6 q7 q8 q9 res.2.1 f1 f2 res.2.2 f7 f8) res.1) 0 [(0, .ref q0)] [] (wdX1_3 cA q0 q1 q2 q3 q4 q6 q7 q8 q9 f0 f1 f2 f3 f7 f8) := by
  unfold pX1_beginItem at h
  refine a_aload_n C0 dX1_beginItem_0 rfl 0 rfl ?_
  refine a_iconst C0 (1 : Int32) dX1_beginItem_1 (by decide) ?_
  obtain ⟨r_1, f3_2, h_3, h⟩ := bd2_e h
  refine a_callVi C0 (wdX1_3 cA q0 q1 q2 q3 q4 q6 q7 q8 q9 f0 f1 f2 f3_2 f7 f8) (As := [.int (1 : Int32)]) (rest := []) (ctX1_stand l D cA q0 q1 q3 q4 q6 q7 q8 q9 (1 : Int32) f0 f3 f7 f8 h_3) (cwV 1 C0.1.2.2.2.2 gX1_beginItem_X1_stand rfl rfl rfl hdX1_stand ⟨Nat.le_of_ble_eq_true rfl, Nat.le_of_ble_eq_true rfl⟩) [0, 3, 4, 5] [1, 2] [2, 0, 1, 3, 4, 5] rfl rfl rfl rfl (by decide) rfl rfl rfl rfl rfl rfl (Nat.le_of_ble_eq_true rfl) dX1_beginItem_2 ⟨Nat.zero_le _, Nat.zero_le _⟩ ?_
  refine a_if_eq C0 22 dX1_beginItem_5 (by decide) (fun c_4 => ?_) (fun c_4 => ?_)
  · have h := it_ c_4 h
    refine a_iconst C0 (0 : Int32) dX1_beginItem_22 (by decide) ?_
    obtain rfl := Option.some.inj h
    exact a_iret C0 dX1_beginItem_23 rfl rfl
  · have h := ie_ c_4 h
    refine a_aload_n C0 dX1_beginItem_8 rfl 0 rfl ?_
    refine a_get C0 inX1_beginItem_X1 0 rfl rfl 1 (by decide) lkX1_beginItem_28 (fun _ h9 => h9) (.ref q3) rfl dX1_beginItem_9 ?_
    refine a_aload_n C0 dX1_beginItem_12 rfl 0 rfl ?_
    refine a_get C0 inX1_beginItem_X1 0 rfl rfl 8 (by decide) lkX1_beginItem_47 (fun _ h9 => h9) (.int (f0 8)) rfl dX1_beginItem_13 ?_
    obtain ⟨r_5, f3_6, h_7, h⟩ := bd2_e h
    refine a_callVi C0 (wdX1_3 cA q0 q1 q2 q3 q4 q6 q7 q8 q9 f0 f1 f2 f3_6 f7 f8) (As := [.int (f0 8)]) (rest := []) (ctX0_beginItem l D cA q3 q4 (f0 8) f3_2 h_7) (cwV 1 C0.1.2.2.2.2 gX1_beginItem_X0_beginItem rfl rfl rfl hdX0_beginItem ⟨Nat.le_of_ble_eq_true rfl, Nat.le_of_ble_eq_true rfl⟩) [3] [0, 1, 2, 4, 5] [0, 1, 2, 5, 3, 4] rfl rfl rfl rfl (by decide) rfl rfl rfl rfl rfl rfl (Nat.le_of_ble_eq_true rfl) dX1_beginItem_16 ⟨Nat.zero_le _, Nat.zero_le _⟩ ?_
    refine a_if_ne C0 24 dX1_beginItem_19 (by decide) (fun c_8 => ?_) (fun c_8 => ?_)
    · have h := ie_ c_8 h
      refine a_aload_n C0 dX1_beginItem_24 rfl 0 rfl ?_
      refine a_dup C0 dX1_beginItem_25 rfl ?_
      refine a_get C0 inX1_beginItem_X1 0 rfl rfl 8 (by decide) lkX1_beginItem_47 (fun _ h9 => h9) (.int (f0 8)) rfl dX1_beginItem_26 ?_
      refine a_iconst C0 (1 : Int32) dX1_beginItem_29 (by decide) ?_
      refine a_iadd C0 dX1_beginItem_30 ?_
      obtain ⟨f0_9, ef0_9, h⟩ := lt_e h
      refine a_put C0 inX1_beginItem_X1 tyX1 tyX1_ok nmX1 0 rfl rfl 8 (by decide) lkX1_beginItem_47 (fun _ h9 => h9) rfl (ty := .int) (v := .int ((f0 8) + (1 : Int32))) (by decide +kernel) rfl rfl (Nat.le_of_ble_eq_true rfl) dX1_beginItem_31 (wdX1_3 cA q0 q1 q2 q3 q4 q6 q7 q8 q9 f0_9 f1 f2 f3_6 f7 f8) (by subst ef0_9; rfl) ?_
      refine a_aload_n C0 dX1_beginItem_34 rfl 0 rfl ?_
      refine a_get C0 inX1_beginItem_X1 0 rfl rfl 0 (by decide) lkX1_beginItem_24 (fun _ h9 => h9) (.ref q1) rfl dX1_beginItem_35 ?_
      refine a_aload_n C0 dX1_beginItem_38 rfl 0 rfl ?_
      refine a_get C0 inX1_beginItem_X1 0 rfl rfl 8 (by decide) lkX1_beginItem_47 (fun _ h9 => h9) (.int (f0_9 8)) rfl dX1_beginItem_39 ?_
      refine a_iconst C0 (1 : Int32) dX1_beginItem_42 (by decide) ?_
      refine a_isub C0 dX1_beginItem_43 ?_
      obtain ⟨r_10, h_11, h⟩ := bd1_e h
      refine a_callVi C0 (wdX1_3 cA q0 q1 q2 q3 q4 q6 q7 q8 q9 f0_9 f1 f2 f3_6 f7 f8) (As := [.int ((f0_9 8) - (1 : Int32))]) (rest := []) (ctX5_byteAt l D cA q1 q2 ((f0_9 8) - (1 : Int32)) f1 f2 h_11) (cwV 1 C0.1.2.2.2.2 gX1_beginItem_X5_byteAt rfl rfl rfl hdX5_byteAt ⟨Nat.le_of_ble_eq_true rfl, Nat.le_of_ble_eq_true rfl⟩) [1, 2] [0, 3, 4, 5] [0, 4, 5, 1, 2, 3] rfl rfl rfl rfl (by decide) rfl rfl rfl rfl rfl rfl (Nat.le_of_ble_eq_true rfl) dX1_beginItem_44 ⟨Nat.zero_le _, Nat.zero_le _⟩ ?_
      obtain rfl := Option.some.inj h
      exact a_iret C0 dX1_beginItem_47 rfl rfl
    · have h := it_ c_8 h
      refine a_iconst C0 (0 : Int32) dX1_beginItem_22 (by decide) ?_
      obtain rfl := Option.some.inj h
      exact a_iret C0 dX1_beginItem_23 rfl rfl
set_option maxRecDepth 100000 in
theorem ctX1_beginItem (l : Launch) (D : va_G) (cA : ClassId) (q0 q1 q2 q3 q4 q6 q7 q8 q9 : Nat) (f0 : Nat → Int32) (f1 : Nat → Int32) (f2 : Nat → Int32) (f3 : Nat → Int32) (f7 : Nat → Int32) (f8 : Nat → Int32) {res : Int32 × (Nat → Int32) × (Nat → Int32)} (h : pX1_beginItem f0 f1 f2 f3 f7 f8 = some res) : Cti l yX1_beginItem wsX1_beginItem (rmX1_beginItem) D vwCl [(cA, .int)] [.ref q0] (wdX1_3 cA q0 q1 q2 q3 q4 q6 q7 q8 q9 f0 f1 f2 f3 f7 f8) (wdX1_3 cA q0 q1 q2 q3 q4 q6 q7 q8 q9 res.2.1 f1 f2 res.2.2 f7 f8) 0 0 res.1 :=
  ct_i (maxL := 1) (cc := cX1_beginItem) (by decide) rfl (Nat.le_of_ble_eq_true rfl) (fun p e s m below meth c C0 => bwX1_beginItem C0 f0 f1 f2 f3 f7 f8 h)
/-! PackDrawer$AheadReader.readRaw -/
abbrev wdX1_4 (cA : ClassId) (q0 q1 q2 q3 q4 q5 q6 q7 q8 q9 : Nat) (f0 : Nat → Int32) (f1 : Nat → Int32) (f2 : Nat → Int32) (f3 : Nat → Int32) (f4 : Nat → Int32) (f5 : Nat → Int32) (f7 : Nat → Int32) (f8 : Nat → Int32) : va_W := [(q0, .inr (1, [.ref q1, .ref q3, .ref q4, .ref q6, .ref q7, .ref q8, .ref q9, .int (f0 7), .int (f0 8), .int (f0 9), .int (f0 10), .int (f0 11)])), (q1, .inr (5, [.ref q2, .int (f1 1)])), (q2, .inl (cA, 160, .inl f2)), (q3, .inr (0, [.ref q4, .int (f3 1), .int (f3 2), .int (f3 3), .int (f3 4), .int (f3 5), .int (f3 6), .int (f3 7), .int (f3 8), .int (f3 9), .int (f3 10), .int (f3 11)])), (q4, .inr (4, [.ref q5, .int (f4 1)])), (q5, .inl (cA, 800, .inl f5)), (q7, .inl (cA, 7, .inl f7)), (q8, .inl (cA, 7, .inl f8))]
theorem hdX0_ask : yX0_ask.cls = RX0 ∧ yX0_ask.cls ≠ "java/lang/invoke/MethodHandle" ∧ yX0_ask.cls ≠ "java/lang/invoke/VarHandle" ∧ (parseMethodDescriptor yX0_ask.desc).map (fun d => d.parameters.length) = some 3 := by decide +kernel
abbrev rmX1_readRaw : Room := { frames := 2, cells := 0, slots := 0, locals := 46 }
theorem lkX1_readRaw_47 : Cond.fieldLink RX1 47 RX1 (TX1 8).2.1 (TX1 8).2.2.1 ∈ wsX1_readRaw := by decide +kernel
theorem inX1_readRaw_X1 : ∀ w ∈ u_ws RX1 TX1 12, w ∈ wsX1_readRaw := by decide +kernel
theorem lkX1_readRaw_38 : Cond.fieldLink RX1 38 RX1 (TX1 2).2.1 (TX1 2).2.2.1 ∈ wsX1_readRaw := by decide +kernel
theorem lkX1_readRaw_24 : Cond.fieldLink RX1 24 RX1 (TX1 0).2.1 (TX1 0).2.2.1 ∈ wsX1_readRaw := by decide +kernel
theorem lkX1_readRaw_28 : Cond.fieldLink RX1 28 RX1 (TX1 1).2.1 (TX1 1).2.2.1 ∈ wsX1_readRaw := by decide +kernel
theorem lkX1_readRaw_88 : Cond.fieldLink RX1 88 RX1 (TX1 10).2.1 (TX1 10).2.2.1 ∈ wsX1_readRaw := by decide +kernel
def bFX1_readRaw_87 (N : Nat) (a1 : Int32) (f1 : Nat → Int32) (f2 : Nat → Int32) (f7 : Nat → Int32) (f8 : Nat → Int32) (rc87 : Int32 → Int32 → Int32 → (Nat → Int32) → (Nat → Int32) → (Nat → Int32) → (Nat → Int32) → Option ((Nat → Int32) × (Nat → Int32) × (Nat → Int32) × (Nat → Int32))) (v2 : Int32) (v3 : Int32) (v4 : Int32) (f0 : Nat → Int32) (f3 : Nat → Int32) (f4 : Nat → Int32) (f5 : Nat → Int32) : Option ((Nat → Int32) × (Nat → Int32) × (Nat → Int32) × (Nat → Int32)) := if v3 ≤ v4 then lt_ (upd f0 8 ((f0 8) + v2)) (fun f0_2 => some (f0_2, f3, f4, f5)) else bd1 (pX5_byteAt ((f0 8) + v4) f1 f2) (fun r_3 => bd2 (pX4_push r_3 f4 f5) (fun f4_5 f5_6 => lt_ ((v4 + (1 : Int32))) (fun x_8 => rc87 v2 v3 x_8 f0 f3 f4_5 f5_6)))
def bfX1_readRaw_87 (N : Nat) (a1 : Int32) (f1 : Nat → Int32) (f2 : Nat → Int32) (f7 : Nat → Int32) (f8 : Nat → Int32) : Nat → Int32 → Int32 → Int32 → (Nat → Int32) → (Nat → Int32) → (Nat → Int32) → (Nat → Int32) → Option ((Nat → Int32) × (Nat → Int32) × (Nat → Int32) × (Nat → Int32))
  | 0 => fun _ _ _ _ _ _ _ => none
  | n + 1 => bFX1_readRaw_87 N a1 f1 f2 f7 f8  (bfX1_readRaw_87 N a1 f1 f2 f7 f8  n)
def bfX1_readRaw_58 (N : Nat) (a1 : Int32) (f1 : Nat → Int32) (f2 : Nat → Int32) (f7 : Nat → Int32) (f8 : Nat → Int32) (v2 : Int32) (f0 : Nat → Int32) (f3 : Nat → Int32) (f4 : Nat → Int32) (f5 : Nat → Int32) : Option ((Nat → Int32) × (Nat → Int32) × (Nat → Int32) × (Nat → Int32)) := bd2 (pX1_stand v2 f0 f3 f7 f8) (fun r_9 f3_10 => if r_9 = 0 then some (f0, f3_10, f4, f5) else bd1 (pX1_isOutermost f0) (fun r_13 => bd2 (pX0_ask v2 (f0 10) r_13 f3_10) (fun r_15 f3_16 => bfX1_readRaw_87 N a1 f1 f2 f7 f8 N v2 r_15 (0 : Int32) f0 f3_16 f4 f5)))
def pX1_readRaw (N : Nat) (a1 : Int32) (f0 : Nat → Int32) (f1 : Nat → Int32) (f2 : Nat → Int32) (f3 : Nat → Int32) (f4 : Nat → Int32) (f5 : Nat → Int32) (f7 : Nat → Int32) (f8 : Nat → Int32) : Option ((Nat → Int32) × (Nat → Int32) × (Nat → Int32) × (Nat → Int32)) := if a1 = (255 : Int32) then bd2 (pX1_stand (2 : Int32) f0 f3 f7 f8) (fun r_19 f3_20 => if r_19 = 0 then some (f0, f3_20, f4, f5) else bd1 (pX5_byteAt (f0 8) f1 f2) (fun r_23 => bd1 (pX5_byteAt ((f0 8) + (1 : Int32)) f1 f2) (fun r_25 => lt_ (((r_23 * (256 : Int32)) + r_25)) (fun x_27 => lt_ (upd f0 8 ((f0 8) + (2 : Int32))) (fun f0_28 => bfX1_readRaw_58 N a1 f1 f2 f7 f8 x_27 f0_28 f3_20 f4 f5))))) else bfX1_readRaw_58 N a1 f1 f2 f7 f8 a1 f0 f3 f4 f5
set_option maxHeartbeats 4000000 in
set_option maxRecDepth 100000 in
theorem bwX1_readRaw_87 {p : Program} {l : Launch} {e : Env} {s : State} {m : MethodId} {args : Array Value} {below : List Frame} {meth : Method} {c : Code} {D : va_G} {A : Nat → Prop} {cA : ClassId} {q0 q1 q2 q3 q4 q5 q6 q7 q8 q9 : Nat} {res : (Nat → Int32) × (Nat → Int32) × (Nat → Int32) × (Nat → Int32)} (C0 : cx p s m args meth c cX1_readRaw 5 RX1 wsX1_readRaw none D vwCl [(cA, .int)] A) (N : Nat) (a1 : Int32) (f1 : Nat → Int32) (f2 : Nat → Int32) (f7 : Nat → Int32) (f8 : Nat → Int32) : ∀ (n : Nat) (v2 : Int32) (v3 : Int32) (v4 : Int32) (f0 : Nat → Int32) (f3 : Nat → Int32) (f4 : Nat → Int32) (f5 : Nat → Int32), bfX1_readRaw_87 N a1 f1 f2 f7 f8  n v2 v3 v4 f0 f3 f4 f5 = some res → At_ p l e (rmX1_readRaw) s m args below meth c D vwCl A 5 0 0 (Qv_ below args s D vwCl A (wdX1_4 cA q0 q1 q2 q3 q4 q5 q6 q7 q8 q9 res.1 f1 f2 res.2.1 res.2.2.1 res.2.2.2 f7 f8)) 87 [(0, .ref q0), (1, .int a1), (2, .int v2), (3, .int v3), (4, .int v4)] [] (wdX1_4 cA q0 q1 q2 q3 q4 q5 q6 q7 q8 q9 f0 f1 f2 f3 f4 f5 f7 f8) := by
  intro n
  induction n with
  | zero => intro v2 v3 v4 f0 f3 f4 f5 h; cases h
  | succ n hrc87 =>
    intro v2 v3 v4 f0 f3 f4 f5 h
    replace h : bFX1_readRaw_87 N a1 f1 f2 f7 f8  (bfX1_readRaw_87 N a1 f1 f2 f7 f8  n) v2 v3 v4 f0 f3 f4 f5 = some res := h
    generalize bfX1_readRaw_87 N a1 f1 f2 f7 f8  n = rc87 at h hrc87
    unfold bFX1_readRaw_87 at h
    refine a_iload C0 dX1_readRaw_87 4 rfl ?_
    refine a_iload_n C0 dX1_readRaw_89 rfl 3 rfl ?_
    refine a_icmp_ge C0 120 dX1_readRaw_90 (by decide) (fun c_1 => ?_) (fun c_1 => ?_)
    · have h := it_ c_1 h
      refine a_aload_n C0 dX1_readRaw_120 rfl 0 rfl ?_
      refine a_dup C0 dX1_readRaw_121 rfl ?_
      refine a_get C0 inX1_readRaw_X1 0 rfl rfl 8 (by decide) lkX1_readRaw_47 (fun _ h9 => h9) (.int (f0 8)) rfl dX1_readRaw_122 ?_
      refine a_iload_n C0 dX1_readRaw_125 rfl 2 rfl ?_
      refine a_iadd C0 dX1_readRaw_126 ?_
      obtain ⟨f0_2, ef0_2, h⟩ := lt_e h
      refine a_put C0 inX1_readRaw_X1 tyX1 tyX1_ok nmX1 0 rfl rfl 8 (by decide) lkX1_readRaw_47 (fun _ h9 => h9) rfl (ty := .int) (v := .int ((f0 8) + v2)) (by decide +kernel) rfl rfl (Nat.le_of_ble_eq_true rfl) dX1_readRaw_127 (wdX1_4 cA q0 q1 q2 q3 q4 q5 q6 q7 q8 q9 f0_2 f1 f2 f3 f4 f5 f7 f8) (by subst ef0_2; rfl) ?_
      obtain rfl := Option.some.inj h
      exact a_vret C0 dX1_readRaw_130 rfl
    · have h := ie_ c_1 h
      refine a_aload_n C0 dX1_readRaw_93 rfl 0 rfl ?_
      refine a_get C0 inX1_readRaw_X1 0 rfl rfl 2 (by decide) lkX1_readRaw_38 (fun _ h9 => h9) (.ref q4) rfl dX1_readRaw_94 ?_
      refine a_aload_n C0 dX1_readRaw_97 rfl 0 rfl ?_
      refine a_get C0 inX1_readRaw_X1 0 rfl rfl 0 (by decide) lkX1_readRaw_24 (fun _ h9 => h9) (.ref q1) rfl dX1_readRaw_98 ?_
      refine a_aload_n C0 dX1_readRaw_101 rfl 0 rfl ?_
      refine a_get C0 inX1_readRaw_X1 0 rfl rfl 8 (by decide) lkX1_readRaw_47 (fun _ h9 => h9) (.int (f0 8)) rfl dX1_readRaw_102 ?_
      refine a_iload C0 dX1_readRaw_105 4 rfl ?_
      refine a_iadd C0 dX1_readRaw_107 ?_
      obtain ⟨r_3, h_4, h⟩ := bd1_e h
      refine a_callVi C0 (wdX1_4 cA q0 q1 q2 q3 q4 q5 q6 q7 q8 q9 f0 f1 f2 f3 f4 f5 f7 f8) (As := [.int ((f0 8) + v4)]) (rest := [.ref q4]) (ctX5_byteAt l D cA q1 q2 ((f0 8) + v4) f1 f2 h_4) (cwV 1 C0.1.2.2.2.2 gX1_readRaw_X5_byteAt rfl rfl rfl hdX5_byteAt ⟨Nat.le_of_ble_eq_true rfl, Nat.le_of_ble_eq_true rfl⟩) [1, 2] [0, 3, 4, 5, 6, 7] [0, 6, 7, 1, 2, 3, 4, 5] rfl rfl rfl rfl (by decide) rfl rfl rfl rfl rfl rfl (Nat.le_of_ble_eq_true rfl) dX1_readRaw_108 ⟨Nat.zero_le _, Nat.zero_le _⟩ ?_
      obtain ⟨f4_5, f5_6, h_7, h⟩ := bd2_e h
      refine a_callVv C0 (wdX1_4 cA q0 q1 q2 q3 q4 q5 q6 q7 q8 q9 f0 f1 f2 f3 f4_5 f5_6 f7 f8) (As := [.int r_3]) (rest := []) (ctX4_push l D cA q4 q5 r_3 f4 f5 h_7) (cwV 1 C0.1.2.2.2.2 gX1_readRaw_X4_push rfl rfl rfl hdX4_push ⟨Nat.le_of_ble_eq_true rfl, Nat.le_of_ble_eq_true rfl⟩) [4, 5] [0, 1, 2, 3, 6, 7] [0, 1, 2, 3, 6, 7, 4, 5] rfl rfl rfl rfl (by decide) rfl rfl rfl rfl rfl rfl (Nat.le_of_ble_eq_true rfl) dX1_readRaw_111 ⟨Nat.zero_le _, Nat.zero_le _⟩ ?_
      obtain ⟨x_8, ex_8, h⟩ := lt_e h
      refine a_iinc C0 x_8 [(4, .int x_8), (0, .ref q0), (1, .int a1), (2, .int v2), (3, .int v3)] dX1_readRaw_114 4 rfl (by subst ex_8; rfl) (by decide) rfl ?_
      refine a_goto C0 87 dX1_readRaw_117 (by decide) ?_
      refine a_lv [1, 2, 3, 4, 0] (lv' := [(0, .ref q0), (1, .int a1), (2, .int v2), (3, .int v3), (4, .int x_8)]) rfl ?_
      exact hrc87 v2 v3 x_8 f0 f3 f4_5 f5_6 h
set_option maxHeartbeats 4000000 in
set_option maxRecDepth 100000 in
theorem bwX1_readRaw_58 {p : Program} {l : Launch} {e : Env} {s : State} {m : MethodId} {args : Array Value} {below : List Frame} {meth : Method} {c : Code} {D : va_G} {A : Nat → Prop} {cA : ClassId} {q0 q1 q2 q3 q4 q5 q6 q7 q8 q9 : Nat} {res : (Nat → Int32) × (Nat → Int32) × (Nat → Int32) × (Nat → Int32)} (C0 : cx p s m args meth c cX1_readRaw 5 RX1 wsX1_readRaw none D vwCl [(cA, .int)] A) (N : Nat) (a1 : Int32) (f1 : Nat → Int32) (f2 : Nat → Int32) (f7 : Nat → Int32) (f8 : Nat → Int32) (v2 : Int32) (f0 : Nat → Int32) (f3 : Nat → Int32) (f4 : Nat → Int32) (f5 : Nat → Int32) (h : bfX1_readRaw_58 N a1 f1 f2 f7 f8  v2 f0 f3 f4 f5 = some res) : At_ p l e (rmX1_readRaw) s m args below meth c D vwCl A 5 0 0 (Qv_ below args s D vwCl A (wdX1_4 cA q0 q1 q2 q3 q4 q5 q6 q7 q8 q9 res.1 f1 f2 res.2.1 res.2.2.1 res.2.2.2 f7 f8)) 58 [(0, .ref q0), (1, .int a1), (2, .int v2)] [] (wdX1_4 cA q0 q1 q2 q3 q4 q5 q6 q7 q8 q9 f0 f1 f2 f3 f4 f5 f7 f8) := by
  unfold bfX1_readRaw_58 at h
  refine a_aload_n C0 dX1_readRaw_58 rfl 0 rfl ?_
  refine a_iload_n C0 dX1_readRaw_59 rfl 2 rfl ?_
  obtain ⟨r_9, f3_10, h_11, h⟩ := bd2_e h
  refine a_callVi C0 (wdX1_4 cA q0 q1 q2 q3 q4 q5 q6 q7 q8 q9 f0 f1 f2 f3_10 f4 f5 f7 f8) (As := [.int v2]) (rest := []) (ctX1_stand l D cA q0 q1 q3 q4 q6 q7 q8 q9 v2 f0 f3 f7 f8 h_11) (cwV 1 C0.1.2.2.2.2 gX1_readRaw_X1_stand rfl rfl rfl hdX1_stand ⟨Nat.le_of_ble_eq_true rfl, Nat.le_of_ble_eq_true rfl⟩) [0, 3, 6, 7] [1, 2, 4, 5] [4, 0, 1, 5, 2, 3, 6, 7] rfl rfl rfl rfl (by decide) rfl rfl rfl rfl rfl rfl (Nat.le_of_ble_eq_true rfl) dX1_readRaw_60 ⟨Nat.zero_le _, Nat.zero_le _⟩ ?_
  refine a_if_ne C0 67 dX1_readRaw_63 (by decide) (fun c_12 => ?_) (fun c_12 => ?_)
  · have h := ie_ c_12 h
    refine a_aload_n C0 dX1_readRaw_67 rfl 0 rfl ?_
    refine a_get C0 inX1_readRaw_X1 0 rfl rfl 1 (by decide) lkX1_readRaw_28 (fun _ h9 => h9) (.ref q3) rfl dX1_readRaw_68 ?_
    refine a_iload_n C0 dX1_readRaw_71 rfl 2 rfl ?_
    refine a_aload_n C0 dX1_readRaw_72 rfl 0 rfl ?_
    refine a_get C0 inX1_readRaw_X1 0 rfl rfl 10 (by decide) lkX1_readRaw_88 (fun _ h9 => h9) (.int (f0 10)) rfl dX1_readRaw_73 ?_
    refine a_aload_n C0 dX1_readRaw_76 rfl 0 rfl ?_
    obtain ⟨r_13, h_14, h⟩ := bd1_e h
    refine a_callVi C0 (wdX1_4 cA q0 q1 q2 q3 q4 q5 q6 q7 q8 q9 f0 f1 f2 f3_10 f4 f5 f7 f8) (As := []) (rest := [.int (f0 10), .int v2, .ref q3]) (ctX1_isOutermost l D cA q0 q1 q3 q4 q6 q7 q8 q9 f0 h_14) (cwV 0 C0.1.2.2.2.2 gX1_readRaw_X1_isOutermost rfl rfl rfl hdX1_isOutermost ⟨Nat.le_of_ble_eq_true rfl, Nat.le_of_ble_eq_true rfl⟩) [0] [1, 2, 3, 4, 5, 6, 7] [7, 0, 1, 2, 3, 4, 5, 6] rfl rfl rfl rfl (by decide) rfl rfl rfl rfl rfl rfl (Nat.le_of_ble_eq_true rfl) dX1_readRaw_77 ⟨Nat.zero_le _, Nat.zero_le _⟩ ?_
    obtain ⟨r_15, f3_16, h_17, h⟩ := bd2_e h
    refine a_callVi C0 (wdX1_4 cA q0 q1 q2 q3 q4 q5 q6 q7 q8 q9 f0 f1 f2 f3_16 f4 f5 f7 f8) (As := [.int v2, .int (f0 10), .int r_13]) (rest := []) (ctX0_ask l D cA q3 q4 v2 (f0 10) r_13 f3_10 h_17) (cwV 3 C0.1.2.2.2.2 gX1_readRaw_X0_ask rfl rfl rfl hdX0_ask ⟨Nat.le_of_ble_eq_true rfl, Nat.le_of_ble_eq_true rfl⟩) [3] [0, 1, 2, 4, 5, 6, 7] [0, 1, 2, 7, 3, 4, 5, 6] rfl rfl rfl rfl (by decide) rfl rfl rfl rfl rfl rfl (Nat.le_of_ble_eq_true rfl) dX1_readRaw_80 ⟨Nat.zero_le _, Nat.zero_le _⟩ ?_
    refine a_istore_n C0 [(3, .int r_15), (0, .ref q0), (1, .int a1), (2, .int v2)] dX1_readRaw_83 rfl (by decide) rfl ?_
    refine a_iconst C0 (0 : Int32) dX1_readRaw_84 (by decide) ?_
    refine a_istore C0 [(4, .int (0 : Int32)), (3, .int r_15), (0, .ref q0), (1, .int a1), (2, .int v2)] dX1_readRaw_85 (by decide) rfl ?_
    refine a_lv [2, 3, 4, 1, 0] (lv' := [(0, .ref q0), (1, .int a1), (2, .int v2), (3, .int r_15), (4, .int (0 : Int32))]) rfl ?_
    exact bwX1_readRaw_87 C0 N a1 f1 f2 f7 f8 N v2 r_15 (0 : Int32) f0 f3_16 f4 f5 h
  · have h := it_ c_12 h
    obtain rfl := Option.some.inj h
    exact a_vret C0 dX1_readRaw_66 rfl
set_option maxHeartbeats 4000000 in
set_option maxRecDepth 100000 in
theorem bwX1_readRaw {p : Program} {l : Launch} {e : Env} {s : State} {m : MethodId} {args : Array Value} {below : List Frame} {meth : Method} {c : Code} {D : va_G} {A : Nat → Prop} {cA : ClassId} {q0 q1 q2 q3 q4 q5 q6 q7 q8 q9 : Nat} {res : (Nat → Int32) × (Nat → Int32) × (Nat → Int32) × (Nat → Int32)} (C0 : cx p s m args meth c cX1_readRaw 5 RX1 wsX1_readRaw none D vwCl [(cA, .int)] A) (N : Nat) (a1 : Int32) (f0 : Nat → Int32) (f1 : Nat → Int32) (f2 : Nat → Int32) (f3 : Nat → Int32) (f4 : Nat → Int32) (f5 : Nat → Int32) (f7 : Nat → Int32) (f8 : Nat → Int32) (h : pX1_readRaw N a1 f0 f1 f2 f3 f4 f5 f7 f8 = some res) : At_ p l e (rmX1_readRaw) s m args below meth c D vwCl A 5 0 0 (Qv_ below args s D vwCl A (wdX1_4 cA q0 q1 q2 q3 q4 q5 q6 q7 q8 q9 res.1 f1 f2 res.2.1 res.2.2.1 res.2.2.2 f7 f8)) 0 [(0, .ref q0), (1, .int a1)] [] (wdX1_4 cA q0 q1 q2 q3 q4 q5 q6 q7 q8 q9 f0 f1 f2 f3 f4 f5 f7 f8) := by
  unfold pX1_readRaw at h
  refine a_iload_n C0 dX1_readRaw_0 rfl 1 rfl ?_
  refine a_istore_n C0 [(2, .int a1), (0, .ref q0), (1, .int a1)] dX1_readRaw_1 rfl (by decide) rfl ?_
  refine a_iload_n C0 dX1_readRaw_2 rfl 2 rfl ?_
  refine a_sipush C0 (255 : Int32) dX1_readRaw_3 (by decide) ?_
  refine a_icmp_ne C0 58 dX1_readRaw_6 (by decide) (fun c_18 => ?_) (fun c_18 => ?_)
  · have h := ie_ c_18 h
    refine a_lv [1, 2, 0] (lv' := [(0, .ref q0), (1, .int a1), (2, .int a1)]) rfl ?_
    exact bwX1_readRaw_58 C0 N a1 f1 f2 f7 f8 a1 f0 f3 f4 f5 h
  · have h := it_ c_18 h
    refine a_aload_n C0 dX1_readRaw_9 rfl 1 rfl ?_
    refine a_iconst C0 (2 : Int32) dX1_readRaw_10 (by decide) ?_
    obtain ⟨r_19, f3_20, h_21, h⟩ := bd2_e h
    refine a_callVi C0 (wdX1_4 cA q0 q1 q2 q3 q4 q5 q6 q7 q8 q9 f0 f1 f2 f3_20 f4 f5 f7 f8) (As := [.int (2 : Int32)]) (rest := []) (ctX1_stand l D cA q0 q1 q3 q4 q6 q7 q8 q9 (2 : Int32) f0 f3 f7 f8 h_21) (cwV 1 C0.1.2.2.2.2 gX1_readRaw_X1_stand rfl rfl rfl hdX1_stand ⟨Nat.le_of_ble_eq_true rfl, Nat.le_of_ble_eq_true rfl⟩) [0, 3, 6, 7] [1, 2, 4, 5] [4, 0, 1, 5, 2, 3, 6, 7] rfl rfl rfl rfl (by decide) rfl rfl rfl rfl rfl rfl (Nat.le_of_ble_eq_true rfl) dX1_readRaw_11 ⟨Nat.zero_le _, Nat.zero_le _⟩ ?_
    refine a_if_ne C0 18 dX1_readRaw_14 (by decide) (fun c_22 => ?_) (fun c_22 => ?_)
    · have h := ie_ c_22 h
      refine a_aload_n C0 dX1_readRaw_18 rfl 1 rfl ?_
      refine a_get C0 inX1_readRaw_X1 0 rfl rfl 0 (by decide) lkX1_readRaw_24 (fun _ h9 => h9) (.ref q1) rfl dX1_readRaw_19 ?_
      refine a_aload_n C0 dX1_readRaw_22 rfl 1 rfl ?_
      refine a_get C0 inX1_readRaw_X1 0 rfl rfl 8 (by decide) lkX1_readRaw_47 (fun _ h9 => h9) (.int (f0 8)) rfl dX1_readRaw_23 ?_
      obtain ⟨r_23, h_24, h⟩ := bd1_e h
      refine a_callVi C0 (wdX1_4 cA q0 q1 q2 q3 q4 q5 q6 q7 q8 q9 f0 f1 f2 f3_20 f4 f5 f7 f8) (As := [.int (f0 8)]) (rest := []) (ctX5_byteAt l D cA q1 q2 (f0 8) f1 f2 h_24) (cwV 1 C0.1.2.2.2.2 gX1_readRaw_X5_byteAt rfl rfl rfl hdX5_byteAt ⟨Nat.le_of_ble_eq_true rfl, Nat.le_of_ble_eq_true rfl⟩) [1, 2] [0, 3, 4, 5, 6, 7] [0, 6, 7, 1, 2, 3, 4, 5] rfl rfl rfl rfl (by decide) rfl rfl rfl rfl rfl rfl (Nat.le_of_ble_eq_true rfl) dX1_readRaw_26 ⟨Nat.zero_le _, Nat.zero_le _⟩ ?_
      refine a_sipush C0 (256 : Int32) dX1_readRaw_29 (by decide) ?_
      refine a_imul C0 dX1_readRaw_32 ?_
      refine a_aload_n C0 dX1_readRaw_33 rfl 1 rfl ?_
      refine a_get C0 inX1_readRaw_X1 0 rfl rfl 0 (by decide) lkX1_readRaw_24 (fun _ h9 => h9) (.ref q1) rfl dX1_readRaw_34 ?_
      refine a_aload_n C0 dX1_readRaw_37 rfl 1 rfl ?_
      refine a_get C0 inX1_readRaw_X1 0 rfl rfl 8 (by decide) lkX1_readRaw_47 (fun _ h9 => h9) (.int (f0 8)) rfl dX1_readRaw_38 ?_
      refine a_iconst C0 (1 : Int32) dX1_readRaw_41 (by decide) ?_
      refine a_iadd C0 dX1_readRaw_42 ?_
      obtain ⟨r_25, h_26, h⟩ := bd1_e h
      refine a_callVi C0 (wdX1_4 cA q0 q1 q2 q3 q4 q5 q6 q7 q8 q9 f0 f1 f2 f3_20 f4 f5 f7 f8) (As := [.int ((f0 8) + (1 : Int32))]) (rest := [.int (r_23 * (256 : Int32))]) (ctX5_byteAt l D cA q1 q2 ((f0 8) + (1 : Int32)) f1 f2 h_26) (cwV 1 C0.1.2.2.2.2 gX1_readRaw_X5_byteAt rfl rfl rfl hdX5_byteAt ⟨Nat.le_of_ble_eq_true rfl, Nat.le_of_ble_eq_true rfl⟩) [1, 2] [0, 3, 4, 5, 6, 7] [0, 6, 7, 1, 2, 3, 4, 5] rfl rfl rfl rfl (by decide) rfl rfl rfl rfl rfl rfl (Nat.le_of_ble_eq_true rfl) dX1_readRaw_43 ⟨Nat.zero_le _, Nat.zero_le _⟩ ?_
      refine a_iadd C0 dX1_readRaw_46 ?_
      obtain ⟨x_27, ex_27, h⟩ := lt_e h
      refine a_topi ex_27 ?_
      refine a_istore_n C0 [(2, .int x_27), (0, .ref q0), (1, .int a1)] dX1_readRaw_47 rfl (by decide) rfl ?_
      refine a_aload_n C0 dX1_readRaw_48 rfl 1 rfl ?_
      refine a_dup C0 dX1_readRaw_49 rfl ?_
      refine a_get C0 inX1_readRaw_X1 0 rfl rfl 8 (by decide) lkX1_readRaw_47 (fun _ h9 => h9) (.int (f0 8)) rfl dX1_readRaw_50 ?_
      refine a_iconst C0 (2 : Int32) dX1_readRaw_53 (by decide) ?_
      refine a_iadd C0 dX1_readRaw_54 ?_
      obtain ⟨f0_28, ef0_28, h⟩ := lt_e h
      refine a_put C0 inX1_readRaw_X1 tyX1 tyX1_ok nmX1 0 rfl rfl 8 (by decide) lkX1_readRaw_47 (fun _ h9 => h9) rfl (ty := .int) (v := .int ((f0 8) + (2 : Int32))) (by decide +kernel) rfl rfl (Nat.le_of_ble_eq_true rfl) dX1_readRaw_55 (wdX1_4 cA q0 q1 q2 q3 q4 q5 q6 q7 q8 q9 f0_28 f1 f2 f3_20 f4 f5 f7 f8) (by subst ef0_28; rfl) ?_
      refine a_lv [1, 2, 0] (lv' := [(0, .ref q0), (1, .int a1), (2, .int x_27)]) rfl ?_
      exact bwX1_readRaw_58 C0 N a1 f1 f2 f7 f8 x_27 f0_28 f3_20 f4 f5 h
    · have h := it_ c_22 h
      obtain rfl := Option.some.inj h
      exact a_vret C0 dX1_readRaw_17 rfl
set_option maxRecDepth 100000 in
theorem ctX1_readRaw (l : Launch) (D : va_G) (cA : ClassId) (q0 q1 q2 q3 q4 q5 q6 q7 q8 q9 : Nat) (N : Nat) (a1 : Int32) (f0 : Nat → Int32) (f1 : Nat → Int32) (f2 : Nat → Int32) (f3 : Nat → Int32) (f4 : Nat → Int32) (f5 : Nat → Int32) (f7 : Nat → Int32) (f8 : Nat → Int32) {res : (Nat → Int32) × (Nat → Int32) × (Nat → Int32) × (Nat → Int32)} (h : pX1_readRaw N a1 f0 f1 f2 f3 f4 f5 f7 f8 = some res) : Ctv l yX1_readRaw wsX1_readRaw (rmX1_readRaw) D vwCl [(cA, .int)] [.ref q0, .int a1] (wdX1_4 cA q0 q1 q2 q3 q4 q5 q6 q7 q8 q9 f0 f1 f2 f3 f4 f5 f7 f8) (wdX1_4 cA q0 q1 q2 q3 q4 q5 q6 q7 q8 q9 res.1 f1 f2 res.2.1 res.2.2.1 res.2.2.2 f7 f8) 0 0 :=
  ct_n (S := Unit) (maxL := 5) (cc := cX1_readRaw) (by decide) rfl (Nat.le_of_ble_eq_true rfl) (fun p e s m below meth c _ C0 => bwX1_readRaw C0 N a1 f0 f1 f2 f3 f4 f5 f7 f8 h)
/-! PackDrawer$AheadReader.giveFromBefore -/
abbrev wdX1_5 (cA : ClassId) (q0 q1 q3 q4 q5 q6 q7 q8 q9 : Nat) (f0 : Nat → Int32) (f3 : Nat → Int32) (f4 : Nat → Int32) (f5 : Nat → Int32) : va_W := [(q0, .inr (1, [.ref q1, .ref q3, .ref q4, .ref q6, .ref q7, .ref q8, .ref q9, .int (f0 7), .int (f0 8), .int (f0 9), .int (f0 10), .int (f0 11)])), (q3, .inr (0, [.ref q4, .int (f3 1), .int (f3 2), .int (f3 3), .int (f3 4), .int (f3 5), .int (f3 6), .int (f3 7), .int (f3 8), .int (f3 9), .int (f3 10), .int (f3 11)])), (q4, .inr (4, [.ref q5, .int (f4 1)])), (q5, .inl (cA, 800, .inl f5))]
theorem hdX4_copyFromBefore : yX4_copyFromBefore.cls = RX4 ∧ yX4_copyFromBefore.cls ≠ "java/lang/invoke/MethodHandle" ∧ yX4_copyFromBefore.cls ≠ "java/lang/invoke/VarHandle" ∧ (parseMethodDescriptor yX4_copyFromBefore.desc).map (fun d => d.parameters.length) = some 2 := by decide +kernel
abbrev rmX1_giveFromBefore : Room := { frames := 2, cells := 0, slots := 0, locals := 46 }
theorem lkX1_giveFromBefore_38 : Cond.fieldLink RX1 38 RX1 (TX1 2).2.1 (TX1 2).2.2.1 ∈ wsX1_giveFromBefore := by decide +kernel
theorem inX1_giveFromBefore_X1 : ∀ w ∈ u_ws RX1 TX1 12, w ∈ wsX1_giveFromBefore := by decide +kernel
theorem lkX1_giveFromBefore_28 : Cond.fieldLink RX1 28 RX1 (TX1 1).2.1 (TX1 1).2.2.1 ∈ wsX1_giveFromBefore := by decide +kernel
def pX1_giveFromBefore (N : Nat) (a1 : Int32) (a2 : Int32) (a3 : Int32) (f0 : Nat → Int32) (f3 : Nat → Int32) (f4 : Nat → Int32) (f5 : Nat → Int32) : Option ((Nat → Int32) × (Nat → Int32) × (Nat → Int32)) := bd1 (pX1_isOutermost f0) (fun r_1 => bd2 (pX0_ask a2 a3 r_1 f3) (fun r_3 f3_4 => bd2 (pX4_copyFromBefore N a1 r_3 f4 f5) (fun f4_6 f5_7 => some (f3_4, f4_6, f5_7))))
set_option maxHeartbeats 4000000 in
set_option maxRecDepth 100000 in
theorem bwX1_giveFromBefore {p : Program} {l : Launch} {e : Env} {s : State} {m : MethodId} {args : Array Value} {below : List Frame} {meth : Method} {c : Code} {D : va_G} {A : Nat → Prop} {cA : ClassId} {q0 q1 q3 q4 q5 q6 q7 q8 q9 : Nat} {res : (Nat → Int32) × (Nat → Int32) × (Nat → Int32)} (C0 : cx p s m args meth c cX1_giveFromBefore 4 RX1 wsX1_giveFromBefore none D vwCl [(cA, .int)] A) (N : Nat) (a1 : Int32) (a2 : Int32) (a3 : Int32) (f0 : Nat → Int32) (f3 : Nat → Int32) (f4 : Nat → Int32) (f5 : Nat → Int32) (h : pX1_giveFromBefore N a1 a2 a3 f0 f3 f4 f5 = some res) : At_ p l e (rmX1_giveFromBefore) s m args below meth c D vwCl A 4 0 0 (Qv_ below args s D vwCl A (wdX1_5 cA q0 q1 q3 q4 q5 q6 q7 q8 q9 f0 res.1 res.2.1 res.2.2)) 0 [(0, .ref q0), (1, .int a1), (2, .int a2), (3, .int a3)] [] (wdX1_5 cA q0 q1 q3 q4 q5 q6 q7 q8 q9 f0 f3 f4 f5) := by
  unfold pX1_giveFromBefore at h
  refine a_aload_n C0 dX1_giveFromBefore_0 rfl 0 rfl ?_
  refine a_get C0 inX1_giveFromBefore_X1 0 rfl rfl 2 (by decide) lkX1_giveFromBefore_38 (fun _ h9 => h9) (.ref q4) rfl dX1_giveFromBefore_1 ?_
  refine a_iload_n C0 dX1_giveFromBefore_4 rfl 1 rfl ?_
  refine a_aload_n C0 dX1_giveFromBefore_5 rfl 0 rfl ?_
  refine a_get C0 inX1_giveFromBefore_X1 0 rfl rfl 1 (by decide) lkX1_giveFromBefore_28 (fun _ h9 => h9) (.ref q3) rfl dX1_giveFromBefore_6 ?_
  refine a_iload_n C0 dX1_giveFromBefore_9 rfl 2 rfl ?_
  refine a_iload_n C0 dX1_giveFromBefore_10 rfl 3 rfl ?_
  refine a_aload_n C0 dX1_giveFromBefore_11 rfl 0 rfl ?_
  obtain ⟨r_1, h_2, h⟩ := bd1_e h
  refine a_callVi C0 (wdX1_5 cA q0 q1 q3 q4 q5 q6 q7 q8 q9 f0 f3 f4 f5) (As := []) (rest := [.int a3, .int a2, .ref q3, .int a1, .ref q4]) (ctX1_isOutermost l D cA q0 q1 q3 q4 q6 q7 q8 q9 f0 h_2) (cwV 0 C0.1.2.2.2.2 gX1_giveFromBefore_X1_isOutermost rfl rfl rfl hdX1_isOutermost ⟨Nat.le_of_ble_eq_true rfl, Nat.le_of_ble_eq_true rfl⟩) [0] [1, 2, 3] [3, 0, 1, 2] rfl rfl rfl rfl (by decide) rfl rfl rfl rfl rfl rfl (Nat.le_of_ble_eq_true rfl) dX1_giveFromBefore_12 ⟨Nat.zero_le _, Nat.zero_le _⟩ ?_
  obtain ⟨r_3, f3_4, h_5, h⟩ := bd2_e h
  refine a_callVi C0 (wdX1_5 cA q0 q1 q3 q4 q5 q6 q7 q8 q9 f0 f3_4 f4 f5) (As := [.int a2, .int a3, .int r_1]) (rest := [.int a1, .ref q4]) (ctX0_ask l D cA q3 q4 a2 a3 r_1 f3 h_5) (cwV 3 C0.1.2.2.2.2 gX1_giveFromBefore_X0_ask rfl rfl rfl hdX0_ask ⟨Nat.le_of_ble_eq_true rfl, Nat.le_of_ble_eq_true rfl⟩) [1] [0, 2, 3] [0, 3, 1, 2] rfl rfl rfl rfl (by decide) rfl rfl rfl rfl rfl rfl (Nat.le_of_ble_eq_true rfl) dX1_giveFromBefore_15 ⟨Nat.zero_le _, Nat.zero_le _⟩ ?_
  obtain ⟨f4_6, f5_7, h_8, h⟩ := bd2_e h
  refine a_callVv C0 (wdX1_5 cA q0 q1 q3 q4 q5 q6 q7 q8 q9 f0 f3_4 f4_6 f5_7) (As := [.int a1, .int r_3]) (rest := []) (ctX4_copyFromBefore l D cA q4 q5 N a1 r_3 f4 f5 h_8) (cwV 2 C0.1.2.2.2.2 gX1_giveFromBefore_X4_copyFromBefore rfl rfl rfl hdX4_copyFromBefore ⟨Nat.le_of_ble_eq_true rfl, Nat.le_of_ble_eq_true rfl⟩) [2, 3] [0, 1] [0, 1, 2, 3] rfl rfl rfl rfl (by decide) rfl rfl rfl rfl rfl rfl (Nat.le_of_ble_eq_true rfl) dX1_giveFromBefore_18 ⟨Nat.zero_le _, Nat.zero_le _⟩ ?_
  obtain rfl := Option.some.inj h
  exact a_vret C0 dX1_giveFromBefore_21 rfl
set_option maxRecDepth 100000 in
theorem ctX1_giveFromBefore (l : Launch) (D : va_G) (cA : ClassId) (q0 q1 q3 q4 q5 q6 q7 q8 q9 : Nat) (N : Nat) (a1 : Int32) (a2 : Int32) (a3 : Int32) (f0 : Nat → Int32) (f3 : Nat → Int32) (f4 : Nat → Int32) (f5 : Nat → Int32) {res : (Nat → Int32) × (Nat → Int32) × (Nat → Int32)} (h : pX1_giveFromBefore N a1 a2 a3 f0 f3 f4 f5 = some res) : Ctv l yX1_giveFromBefore wsX1_giveFromBefore (rmX1_giveFromBefore) D vwCl [(cA, .int)] [.ref q0, .int a1, .int a2, .int a3] (wdX1_5 cA q0 q1 q3 q4 q5 q6 q7 q8 q9 f0 f3 f4 f5) (wdX1_5 cA q0 q1 q3 q4 q5 q6 q7 q8 q9 f0 res.1 res.2.1 res.2.2) 0 0 :=
  ct_n (S := Unit) (maxL := 4) (cc := cX1_giveFromBefore) (by decide) rfl (Nat.le_of_ble_eq_true rfl) (fun p e s m below meth c _ C0 => bwX1_giveFromBefore C0 N a1 a2 a3 f0 f3 f4 f5 h)
/-! PackDrawer$AheadReader.giveAgain -/
abbrev wdX1_6 (cA : ClassId) (q0 q1 q2 q3 q4 q5 q6 q7 q8 q9 : Nat) (f0 : Nat → Int32) (f1 : Nat → Int32) (f2 : Nat → Int32) (f3 : Nat → Int32) (f4 : Nat → Int32) (f5 : Nat → Int32) : va_W := [(q0, .inr (1, [.ref q1, .ref q3, .ref q4, .ref q6, .ref q7, .ref q8, .ref q9, .int (f0 7), .int (f0 8), .int (f0 9), .int (f0 10), .int (f0 11)])), (q1, .inr (5, [.ref q2, .int (f1 1)])), (q2, .inl (cA, 160, .inl f2)), (q3, .inr (0, [.ref q4, .int (f3 1), .int (f3 2), .int (f3 3), .int (f3 4), .int (f3 5), .int (f3 6), .int (f3 7), .int (f3 8), .int (f3 9), .int (f3 10), .int (f3 11)])), (q4, .inr (4, [.ref q5, .int (f4 1)])), (q5, .inl (cA, 800, .inl f5))]
theorem hdX6_timesMore : yX6_timesMore.cls = RX6 ∧ yX6_timesMore.cls ≠ "java/lang/invoke/MethodHandle" ∧ yX6_timesMore.cls ≠ "java/lang/invoke/VarHandle" ∧ (parseMethodDescriptor yX6_timesMore.desc).map (fun d => d.parameters.length) = some 1 := by decide +kernel
theorem hdX1_giveFromBefore : yX1_giveFromBefore.cls = RX1 ∧ yX1_giveFromBefore.cls ≠ "java/lang/invoke/MethodHandle" ∧ yX1_giveFromBefore.cls ≠ "java/lang/invoke/VarHandle" ∧ (parseMethodDescriptor yX1_giveFromBefore.desc).map (fun d => d.parameters.length) = some 3 := by decide +kernel
abbrev rmX1_giveAgain : Room := { frames := 3, cells := 0, slots := 0, locals := 69 }
theorem lkX1_giveAgain_78 : Cond.fieldLink RX1 78 RX1 (TX1 9).2.1 (TX1 9).2.2.1 ∈ wsX1_giveAgain := by decide +kernel
theorem inX1_giveAgain_X1 : ∀ w ∈ u_ws RX1 TX1 12, w ∈ wsX1_giveAgain := by decide +kernel
theorem lkX1_giveAgain_28 : Cond.fieldLink RX1 28 RX1 (TX1 1).2.1 (TX1 1).2.2.1 ∈ wsX1_giveAgain := by decide +kernel
theorem lkX1_giveAgain_38 : Cond.fieldLink RX1 38 RX1 (TX1 2).2.1 (TX1 2).2.2.1 ∈ wsX1_giveAgain := by decide +kernel
theorem lkX1_giveAgain_91 : Cond.fieldLink RX1 91 RX1 (TX1 11).2.1 (TX1 11).2.2.1 ∈ wsX1_giveAgain := by decide +kernel
theorem lkX1_giveAgain_24 : Cond.fieldLink RX1 24 RX1 (TX1 0).2.1 (TX1 0).2.2.1 ∈ wsX1_giveAgain := by decide +kernel
theorem nmX1_giveAgain_149 : (RX1, 149, yX6_timesMore, RX6) ∈ nest_M := by decide +kernel
theorem niX1_giveAgain_X6 : Cond.initialized RX6 ∈ wsX1_giveAgain := by decide +kernel
theorem nsX1_giveAgain_X6_timesMore : Cond.static yX6_timesMore ∈ wsX1_giveAgain := by decide +kernel
theorem lkX1_giveAgain_88 : Cond.fieldLink RX1 88 RX1 (TX1 10).2.1 (TX1 10).2.2.1 ∈ wsX1_giveAgain := by decide +kernel
def bFX1_giveAgain_7 (N : Nat) (f0 : Nat → Int32) (f1 : Nat → Int32) (f2 : Nat → Int32) (rc7 : Int32 → (Nat → Int32) → (Nat → Int32) → (Nat → Int32) → Option ((Nat → Int32) × (Nat → Int32) × (Nat → Int32))) (v1 : Int32) (f3 : Nat → Int32) (f4 : Nat → Int32) (f5 : Nat → Int32) : Option ((Nat → Int32) × (Nat → Int32) × (Nat → Int32)) := if v1 < (f0 9) then some (f3, f4, f5) else bd1 (pX0_failed f3) (fun r_2 => if r_2 = 0 then bd1 (pX4_top f4) (fun r_5 => lt_ ((r_5 - (f0 11))) (fun x_7 => bd1 (pX5_byteAt v1 f1 f2) (fun r_8 => bd1 (pX6_timesMore r_8) (fun r_10 => bd3 (pX1_giveFromBefore N x_7 (x_7 * r_10) v1 f0 f3 f4 f5) (fun f3_12 f4_13 f5_14 => lt_ ((v1 + (-1 : Int32))) (fun x_16 => rc7 x_16 f3_12 f4_13 f5_14)))))) else some (f3, f4, f5))
def bfX1_giveAgain_7 (N : Nat) (f0 : Nat → Int32) (f1 : Nat → Int32) (f2 : Nat → Int32) : Nat → Int32 → (Nat → Int32) → (Nat → Int32) → (Nat → Int32) → Option ((Nat → Int32) × (Nat → Int32) × (Nat → Int32))
  | 0 => fun _ _ _ _ => none
  | n + 1 => bFX1_giveAgain_7 N f0 f1 f2  (bfX1_giveAgain_7 N f0 f1 f2  n)
def pX1_giveAgain (N : Nat) (f0 : Nat → Int32) (f1 : Nat → Int32) (f2 : Nat → Int32) (f3 : Nat → Int32) (f4 : Nat → Int32) (f5 : Nat → Int32) : Option ((Nat → Int32) × (Nat → Int32) × (Nat → Int32)) := lt_ (((f0 10) - (1 : Int32))) (fun x_17 => bfX1_giveAgain_7 N f0 f1 f2 N x_17 f3 f4 f5)
set_option maxHeartbeats 4000000 in
set_option maxRecDepth 100000 in
theorem bwX1_giveAgain_7 {p : Program} {l : Launch} {e : Env} {s : State} {m : MethodId} {args : Array Value} {below : List Frame} {meth : Method} {c : Code} {D : va_G} {A : Nat → Prop} {cA : ClassId} {q0 q1 q2 q3 q4 q5 q6 q7 q8 q9 : Nat} {res : (Nat → Int32) × (Nat → Int32) × (Nat → Int32)} (C0 : cx p s m args meth c cX1_giveAgain 3 RX1 wsX1_giveAgain none D vwCl [(cA, .int)] A) (N : Nat) (f0 : Nat → Int32) (f1 : Nat → Int32) (f2 : Nat → Int32) : ∀ (n : Nat) (v1 : Int32) (f3 : Nat → Int32) (f4 : Nat → Int32) (f5 : Nat → Int32), bfX1_giveAgain_7 N f0 f1 f2  n v1 f3 f4 f5 = some res → At_ p l e (rmX1_giveAgain) s m args below meth c D vwCl A 3 0 0 (Qv_ below args s D vwCl A (wdX1_6 cA q0 q1 q2 q3 q4 q5 q6 q7 q8 q9 f0 f1 f2 res.1 res.2.1 res.2.2)) 7 [(0, .ref q0), (1, .int v1)] [] (wdX1_6 cA q0 q1 q2 q3 q4 q5 q6 q7 q8 q9 f0 f1 f2 f3 f4 f5) := by
  intro n
  induction n with
  | zero => intro v1 f3 f4 f5 h; cases h
  | succ n hrc7 =>
    intro v1 f3 f4 f5 h
    replace h : bFX1_giveAgain_7 N f0 f1 f2  (bfX1_giveAgain_7 N f0 f1 f2  n) v1 f3 f4 f5 = some res := h
    generalize bfX1_giveAgain_7 N f0 f1 f2  n = rc7 at h hrc7
    unfold bFX1_giveAgain_7 at h
    refine a_iload_n C0 dX1_giveAgain_7 rfl 1 rfl ?_
    refine a_aload_n C0 dX1_giveAgain_8 rfl 0 rfl ?_
    refine a_get C0 inX1_giveAgain_X1 0 rfl rfl 9 (by decide) lkX1_giveAgain_78 (fun _ h9 => h9) (.int (f0 9)) rfl dX1_giveAgain_9 ?_
    refine a_icmp_lt C0 63 dX1_giveAgain_12 (by decide) (fun c_1 => ?_) (fun c_1 => ?_)
    · have h := it_ c_1 h
      obtain rfl := Option.some.inj h
      exact a_vret C0 dX1_giveAgain_63 rfl
    · have h := ie_ c_1 h
      refine a_aload_n C0 dX1_giveAgain_15 rfl 0 rfl ?_
      refine a_get C0 inX1_giveAgain_X1 0 rfl rfl 1 (by decide) lkX1_giveAgain_28 (fun _ h9 => h9) (.ref q3) rfl dX1_giveAgain_16 ?_
      obtain ⟨r_2, h_3, h⟩ := bd1_e h
      refine a_callVi C0 (wdX1_6 cA q0 q1 q2 q3 q4 q5 q6 q7 q8 q9 f0 f1 f2 f3 f4 f5) (As := []) (rest := []) (ctX0_failed l D cA q3 q4 f3 h_3) (cwV 0 C0.1.2.2.2.2 gX1_giveAgain_X0_failed rfl rfl rfl hdX0_failed ⟨Nat.le_of_ble_eq_true rfl, Nat.le_of_ble_eq_true rfl⟩) [3] [0, 1, 2, 4, 5] [0, 1, 2, 5, 3, 4] rfl rfl rfl rfl (by decide) rfl rfl rfl rfl rfl rfl (Nat.le_of_ble_eq_true rfl) dX1_giveAgain_19 ⟨Nat.zero_le _, Nat.zero_le _⟩ ?_
      refine a_if_ne C0 63 dX1_giveAgain_22 (by decide) (fun c_4 => ?_) (fun c_4 => ?_)
      · have h := ie_ c_4 h
        obtain rfl := Option.some.inj h
        exact a_vret C0 dX1_giveAgain_63 rfl
      · have h := it_ c_4 h
        refine a_aload_n C0 dX1_giveAgain_25 rfl 0 rfl ?_
        refine a_get C0 inX1_giveAgain_X1 0 rfl rfl 2 (by decide) lkX1_giveAgain_38 (fun _ h9 => h9) (.ref q4) rfl dX1_giveAgain_26 ?_
        obtain ⟨r_5, h_6, h⟩ := bd1_e h
        refine a_callVi C0 (wdX1_6 cA q0 q1 q2 q3 q4 q5 q6 q7 q8 q9 f0 f1 f2 f3 f4 f5) (As := []) (rest := []) (ctX4_top l D cA q4 q5 f4 h_6) (cwV 0 C0.1.2.2.2.2 gX1_giveAgain_X4_top rfl rfl rfl hdX4_top ⟨Nat.le_of_ble_eq_true rfl, Nat.le_of_ble_eq_true rfl⟩) [4] [0, 1, 2, 3, 5] [0, 1, 2, 3, 5, 4] rfl rfl rfl rfl (by decide) rfl rfl rfl rfl rfl rfl (Nat.le_of_ble_eq_true rfl) dX1_giveAgain_29 ⟨Nat.zero_le _, Nat.zero_le _⟩ ?_
        refine a_aload_n C0 dX1_giveAgain_32 rfl 0 rfl ?_
        refine a_get C0 inX1_giveAgain_X1 0 rfl rfl 11 (by decide) lkX1_giveAgain_91 (fun _ h9 => h9) (.int (f0 11)) rfl dX1_giveAgain_33 ?_
        refine a_isub C0 dX1_giveAgain_36 ?_
        obtain ⟨x_7, ex_7, h⟩ := lt_e h
        refine a_topi ex_7 ?_
        refine a_istore_n C0 [(2, .int x_7), (0, .ref q0), (1, .int v1)] dX1_giveAgain_37 rfl (by decide) rfl ?_
        refine a_aload_n C0 dX1_giveAgain_38 rfl 1 rfl ?_
        refine a_iload_n C0 dX1_giveAgain_39 rfl 0 rfl ?_
        refine a_iload_n C0 dX1_giveAgain_40 rfl 0 rfl ?_
        refine a_aload_n C0 dX1_giveAgain_41 rfl 1 rfl ?_
        refine a_get C0 inX1_giveAgain_X1 0 rfl rfl 0 (by decide) lkX1_giveAgain_24 (fun _ h9 => h9) (.ref q1) rfl dX1_giveAgain_42 ?_
        refine a_iload_n C0 dX1_giveAgain_45 rfl 2 rfl ?_
        obtain ⟨r_8, h_9, h⟩ := bd1_e h
        refine a_callVi C0 (wdX1_6 cA q0 q1 q2 q3 q4 q5 q6 q7 q8 q9 f0 f1 f2 f3 f4 f5) (As := [.int v1]) (rest := [.int x_7, .int x_7, .ref q0]) (ctX5_byteAt l D cA q1 q2 v1 f1 f2 h_9) (cwV 1 C0.1.2.2.2.2 gX1_giveAgain_X5_byteAt rfl rfl rfl hdX5_byteAt ⟨Nat.le_of_ble_eq_true rfl, Nat.le_of_ble_eq_true rfl⟩) [1, 2] [0, 3, 4, 5] [0, 4, 5, 1, 2, 3] rfl rfl rfl rfl (by decide) rfl rfl rfl rfl rfl rfl (Nat.le_of_ble_eq_true rfl) dX1_giveAgain_46 ⟨Nat.zero_le _, Nat.zero_le _⟩ ?_
        obtain ⟨r_10, h_11, h⟩ := bd1_e h
        refine a_callSNi C0 (wdX1_6 cA q0 q1 q2 q3 q4 q5 q6 q7 q8 q9 f0 f1 f2 f3 f4 f5) (As := [.int r_8]) (rest := [.int x_7, .int x_7, .ref q0]) (ctX6_timesMore l D cA r_8 h_11) ⟨va_cnB 1 C0.1.2.2.2.2 gX1_giveAgain_X6_timesMore_n149 rfl rfl rfl (C0.2.2.2.1.2.2 (RX1, 149, yX6_timesMore, RX6) nmX1_giveAgain_149) (C0.1.2.2.2.2 (.initialized RX6) niX1_giveAgain_X6) hdX6_timesMore.2 ⟨Nat.le_of_ble_eq_true rfl, Nat.le_of_ble_eq_true rfl⟩, (C0.1.2.2.2.2 (.static yX6_timesMore) nsX1_giveAgain_X6_timesMore), trivial⟩ [] [0, 1, 2, 3, 4, 5] [0, 1, 2, 3, 4, 5] rfl rfl rfl rfl (by decide) rfl rfl rfl rfl (Nat.le_of_ble_eq_true rfl) dX1_giveAgain_49 ⟨Nat.zero_le _, Nat.zero_le _⟩ ?_
        refine a_imul C0 dX1_giveAgain_52 ?_
        refine a_iload_n C0 dX1_giveAgain_53 rfl 2 rfl ?_
        obtain ⟨f3_12, f4_13, f5_14, h_15, h⟩ := bd3_e h
        refine a_callVv C0 (wdX1_6 cA q0 q1 q2 q3 q4 q5 q6 q7 q8 q9 f0 f1 f2 f3_12 f4_13 f5_14) (As := [.int x_7, .int (x_7 * r_10), .int v1]) (rest := []) (ctX1_giveFromBefore l D cA q0 q1 q3 q4 q5 q6 q7 q8 q9 N x_7 (x_7 * r_10) v1 f0 f3 f4 f5 h_15) (cwV 3 C0.1.2.2.2.2 gX1_giveAgain_X1_giveFromBefore rfl rfl rfl hdX1_giveFromBefore ⟨Nat.le_of_ble_eq_true rfl, Nat.le_of_ble_eq_true rfl⟩) [0, 3, 4, 5] [1, 2] [2, 0, 1, 3, 4, 5] rfl rfl rfl rfl (by decide) rfl rfl rfl rfl rfl rfl (Nat.le_of_ble_eq_true rfl) dX1_giveAgain_54 ⟨Nat.zero_le _, Nat.zero_le _⟩ ?_
        obtain ⟨x_16, ex_16, h⟩ := lt_e h
        refine a_iinc C0 x_16 [(1, .int x_16), (2, .int x_7), (0, .ref q0)] dX1_giveAgain_57 2 rfl (by subst ex_16; rfl) (by decide) rfl ?_
        refine a_goto C0 7 dX1_giveAgain_60 (by decide) ?_
        refine a_lv [2, 0] (lv' := [(0, .ref q0), (1, .int x_16)]) rfl ?_
        exact hrc7 x_16 f3_12 f4_13 f5_14 h
set_option maxHeartbeats 4000000 in
set_option maxRecDepth 100000 in
theorem bwX1_giveAgain {p : Program} {l : Launch} {e : Env} {s : State} {m : MethodId} {args : Array Value} {below : List Frame} {meth : Method} {c : Code} {D : va_G} {A : Nat → Prop} {cA : ClassId} {q0 q1 q2 q3 q4 q5 q6 q7 q8 q9 : Nat} {res : (Nat → Int32) × (Nat → Int32) × (Nat → Int32)} (C0 : cx p s m args meth c cX1_giveAgain 3 RX1 wsX1_giveAgain none D vwCl [(cA, .int)] A) (N : Nat) (f0 : Nat → Int32) (f1 : Nat → Int32) (f2 : Nat → Int32) (f3 : Nat → Int32) (f4 : Nat → Int32) (f5 : Nat → Int32) (h : pX1_giveAgain N f0 f1 f2 f3 f4 f5 = some res) : At_ p l e (rmX1_giveAgain) s m args below meth c D vwCl A 3 0 0 (Qv_ below args s D vwCl A (wdX1_6 cA q0 q1 q2 q3 q4 q5 q6 q7 q8 q9 f0 f1 f2 res.1 res.2.1 res.2.2)) 0 [(0, .ref q0)] [] (wdX1_6 cA q0 q1 q2 q3 q4 q5 q6 q7 q8 q9 f0 f1 f2 f3 f4 f5) := by
  unfold pX1_giveAgain at h
  refine a_aload_n C0 dX1_giveAgain_0 rfl 0 rfl ?_
  refine a_get C0 inX1_giveAgain_X1 0 rfl rfl 10 (by decide) lkX1_giveAgain_88 (fun _ h9 => h9) (.int (f0 10)) rfl dX1_giveAgain_1 ?_
  refine a_iconst C0 (1 : Int32) dX1_giveAgain_4 (by decide) ?_
  refine a_isub C0 dX1_giveAgain_5 ?_
  obtain ⟨x_17, ex_17, h⟩ := lt_e h
  refine a_topi ex_17 ?_
  refine a_istore_n C0 [(1, .int x_17), (0, .ref q0)] dX1_giveAgain_6 rfl (by decide) rfl ?_
  refine a_lv [1, 0] (lv' := [(0, .ref q0), (1, .int x_17)]) rfl ?_
  exact bwX1_giveAgain_7 C0 N f0 f1 f2 N x_17 f3 f4 f5 h
set_option maxRecDepth 100000 in
theorem ctX1_giveAgain (l : Launch) (D : va_G) (cA : ClassId) (q0 q1 q2 q3 q4 q5 q6 q7 q8 q9 : Nat) (N : Nat) (f0 : Nat → Int32) (f1 : Nat → Int32) (f2 : Nat → Int32) (f3 : Nat → Int32) (f4 : Nat → Int32) (f5 : Nat → Int32) {res : (Nat → Int32) × (Nat → Int32) × (Nat → Int32)} (h : pX1_giveAgain N f0 f1 f2 f3 f4 f5 = some res) : Ctv l yX1_giveAgain wsX1_giveAgain (rmX1_giveAgain) D vwCl [(cA, .int)] [.ref q0] (wdX1_6 cA q0 q1 q2 q3 q4 q5 q6 q7 q8 q9 f0 f1 f2 f3 f4 f5) (wdX1_6 cA q0 q1 q2 q3 q4 q5 q6 q7 q8 q9 f0 f1 f2 res.1 res.2.1 res.2.2) 0 0 :=
  ct_n (S := Unit) (maxL := 3) (cc := cX1_giveAgain) (by decide) rfl (Nat.le_of_ble_eq_true rfl) (fun p e s m below meth c _ C0 => bwX1_giveAgain C0 N f0 f1 f2 f3 f4 f5 h)
/-! PackDrawer$AheadReader.readCopy -/
abbrev wdX1_7 (cA : ClassId) (q0 q1 q2 q3 q4 q5 q6 q7 q8 q9 : Nat) (f0 : Nat → Int32) (f1 : Nat → Int32) (f2 : Nat → Int32) (f3 : Nat → Int32) (f4 : Nat → Int32) (f5 : Nat → Int32) (f6 : Nat → Int32) (f7 : Nat → Int32) (f8 : Nat → Int32) : va_W := [(q0, .inr (1, [.ref q1, .ref q3, .ref q4, .ref q6, .ref q7, .ref q8, .ref q9, .int (f0 7), .int (f0 8), .int (f0 9), .int (f0 10), .int (f0 11)])), (q1, .inr (5, [.ref q2, .int (f1 1)])), (q2, .inl (cA, 160, .inl f2)), (q3, .inr (0, [.ref q4, .int (f3 1), .int (f3 2), .int (f3 3), .int (f3 4), .int (f3 5), .int (f3 6), .int (f3 7), .int (f3 8), .int (f3 9), .int (f3 10), .int (f3 11)])), (q4, .inr (4, [.ref q5, .int (f4 1)])), (q5, .inl (cA, 800, .inl f5)), (q6, .inl (cA, 7, .inl f6)), (q7, .inl (cA, 7, .inl f7)), (q8, .inl (cA, 7, .inl f8))]
theorem hdX6_copyCount : yX6_copyCount.cls = RX6 ∧ yX6_copyCount.cls ≠ "java/lang/invoke/MethodHandle" ∧ yX6_copyCount.cls ≠ "java/lang/invoke/VarHandle" ∧ (parseMethodDescriptor yX6_copyCount.desc).map (fun d => d.parameters.length) = some 1 := by decide +kernel
abbrev rmX1_readCopy : Room := { frames := 3, cells := 0, slots := 0, locals := 69 }
theorem lkX1_readCopy_24 : Cond.fieldLink RX1 24 RX1 (TX1 0).2.1 (TX1 0).2.2.1 ∈ wsX1_readCopy := by decide +kernel
theorem inX1_readCopy_X1 : ∀ w ∈ u_ws RX1 TX1 12, w ∈ wsX1_readCopy := by decide +kernel
theorem lkX1_readCopy_47 : Cond.fieldLink RX1 47 RX1 (TX1 8).2.1 (TX1 8).2.2.1 ∈ wsX1_readCopy := by decide +kernel
theorem lkX1_readCopy_38 : Cond.fieldLink RX1 38 RX1 (TX1 2).2.1 (TX1 2).2.2.1 ∈ wsX1_readCopy := by decide +kernel
theorem lkX1_readCopy_9 : Cond.fieldLink RX1 9 RX1 (TX1 3).2.1 (TX1 3).2.2.1 ∈ wsX1_readCopy := by decide +kernel
theorem lkX1_readCopy_43 : Cond.fieldLink RX1 43 RX1 (TX1 7).2.1 (TX1 7).2.2.1 ∈ wsX1_readCopy := by decide +kernel
theorem nmX1_readCopy_131 : (RX1, 131, yX6_copyCount, RX6) ∈ nest_M := by decide +kernel
theorem niX1_readCopy_X6 : Cond.initialized RX6 ∈ wsX1_readCopy := by decide +kernel
theorem nsX1_readCopy_X6_copyCount : Cond.static yX6_copyCount ∈ wsX1_readCopy := by decide +kernel
theorem lkX1_readCopy_88 : Cond.fieldLink RX1 88 RX1 (TX1 10).2.1 (TX1 10).2.2.1 ∈ wsX1_readCopy := by decide +kernel
theorem lkX1_readCopy_28 : Cond.fieldLink RX1 28 RX1 (TX1 1).2.1 (TX1 1).2.2.1 ∈ wsX1_readCopy := by decide +kernel
def pX1_readCopy (N : Nat) (a1 : Int32) (f0 : Nat → Int32) (f1 : Nat → Int32) (f2 : Nat → Int32) (f3 : Nat → Int32) (f4 : Nat → Int32) (f5 : Nat → Int32) (f6 : Nat → Int32) (f7 : Nat → Int32) (f8 : Nat → Int32) : Option ((Nat → Int32) × (Nat → Int32) × (Nat → Int32) × (Nat → Int32)) := bd2 (pX1_stand (1 : Int32) f0 f3 f7 f8) (fun r_1 f3_2 => if r_1 = 0 then some (f0, f3_2, f4, f5) else bd1 (pX5_byteAt (f0 8) f1 f2) (fun r_5 => lt_ ((r_5 + (1 : Int32))) (fun x_7 => bd1 (pX4_top f4) (fun r_8 => gi_ (f0 7) 7 (if x_7 ≤ (r_8 - (f6 (f0 7).toNatClampNeg)) then lt_ (upd f0 8 ((f0 8) + (1 : Int32))) (fun f0_12 => bd1 (pX6_copyCount a1) (fun r_13 => bd3 (pX1_giveFromBefore N x_7 r_13 (f0_12 10) f0_12 f3_2 f4 f5) (fun f3_15 f4_16 f5_17 => some (f0_12, f3_15, f4_16, f5_17)))) else bd1 (pX0_fail (3 : Int32) (f0 8) f3_2) (fun f3_19 => some (f0, f3_19, f4, f5)))))))
set_option maxHeartbeats 4000000 in
set_option maxRecDepth 100000 in
theorem bwX1_readCopy {p : Program} {l : Launch} {e : Env} {s : State} {m : MethodId} {args : Array Value} {below : List Frame} {meth : Method} {c : Code} {D : va_G} {A : Nat → Prop} {cA : ClassId} {q0 q1 q2 q3 q4 q5 q6 q7 q8 q9 : Nat} {res : (Nat → Int32) × (Nat → Int32) × (Nat → Int32) × (Nat → Int32)} (C0 : cx p s m args meth c cX1_readCopy 3 RX1 wsX1_readCopy none D vwCl [(cA, .int)] A) (N : Nat) (a1 : Int32) (f0 : Nat → Int32) (f1 : Nat → Int32) (f2 : Nat → Int32) (f3 : Nat → Int32) (f4 : Nat → Int32) (f5 : Nat → Int32) (f6 : Nat → Int32) (f7 : Nat → Int32) (f8 : Nat → Int32) (h : pX1_readCopy N a1 f0 f1 f2 f3 f4 f5 f6 f7 f8 = some res) : At_ p l e (rmX1_readCopy) s m args below meth c D vwCl A 3 0 0 (Qv_ below args s D vwCl A (wdX1_7 cA q0 q1 q2 q3 q4 q5 q6 q7 q8 q9 res.1 f1 f2 res.2.1 res.2.2.1 res.2.2.2 f6 f7 f8)) 0 [(0, .ref q0), (1, .int a1)] [] (wdX1_7 cA q0 q1 q2 q3 q4 q5 q6 q7 q8 q9 f0 f1 f2 f3 f4 f5 f6 f7 f8) := by
  unfold pX1_readCopy at h
  refine a_aload_n C0 dX1_readCopy_0 rfl 0 rfl ?_
  refine a_iconst C0 (1 : Int32) dX1_readCopy_1 (by decide) ?_
  obtain ⟨r_1, f3_2, h_3, h⟩ := bd2_e h
  refine a_callVi C0 (wdX1_7 cA q0 q1 q2 q3 q4 q5 q6 q7 q8 q9 f0 f1 f2 f3_2 f4 f5 f6 f7 f8) (As := [.int (1 : Int32)]) (rest := []) (ctX1_stand l D cA q0 q1 q3 q4 q6 q7 q8 q9 (1 : Int32) f0 f3 f7 f8 h_3) (cwV 1 C0.1.2.2.2.2 gX1_readCopy_X1_stand rfl rfl rfl hdX1_stand ⟨Nat.le_of_ble_eq_true rfl, Nat.le_of_ble_eq_true rfl⟩) [0, 3, 7, 8] [1, 2, 4, 5, 6] [5, 0, 1, 6, 2, 3, 4, 7, 8] rfl rfl rfl rfl (by decide) rfl rfl rfl rfl rfl rfl (Nat.le_of_ble_eq_true rfl) dX1_readCopy_2 ⟨Nat.zero_le _, Nat.zero_le _⟩ ?_
  refine a_if_ne C0 9 dX1_readCopy_5 (by decide) (fun c_4 => ?_) (fun c_4 => ?_)
  · have h := ie_ c_4 h
    refine a_aload_n C0 dX1_readCopy_9 rfl 0 rfl ?_
    refine a_get C0 inX1_readCopy_X1 0 rfl rfl 0 (by decide) lkX1_readCopy_24 (fun _ h9 => h9) (.ref q1) rfl dX1_readCopy_10 ?_
    refine a_aload_n C0 dX1_readCopy_13 rfl 0 rfl ?_
    refine a_get C0 inX1_readCopy_X1 0 rfl rfl 8 (by decide) lkX1_readCopy_47 (fun _ h9 => h9) (.int (f0 8)) rfl dX1_readCopy_14 ?_
    obtain ⟨r_5, h_6, h⟩ := bd1_e h
    refine a_callVi C0 (wdX1_7 cA q0 q1 q2 q3 q4 q5 q6 q7 q8 q9 f0 f1 f2 f3_2 f4 f5 f6 f7 f8) (As := [.int (f0 8)]) (rest := []) (ctX5_byteAt l D cA q1 q2 (f0 8) f1 f2 h_6) (cwV 1 C0.1.2.2.2.2 gX1_readCopy_X5_byteAt rfl rfl rfl hdX5_byteAt ⟨Nat.le_of_ble_eq_true rfl, Nat.le_of_ble_eq_true rfl⟩) [1, 2] [0, 3, 4, 5, 6, 7, 8] [0, 7, 8, 1, 2, 3, 4, 5, 6] rfl rfl rfl rfl (by decide) rfl rfl rfl rfl rfl rfl (Nat.le_of_ble_eq_true rfl) dX1_readCopy_17 ⟨Nat.zero_le _, Nat.zero_le _⟩ ?_
    refine a_iconst C0 (1 : Int32) dX1_readCopy_20 (by decide) ?_
    refine a_iadd C0 dX1_readCopy_21 ?_
    obtain ⟨x_7, ex_7, h⟩ := lt_e h
    refine a_topi ex_7 ?_
    refine a_istore_n C0 [(2, .int x_7), (0, .ref q0), (1, .int a1)] dX1_readCopy_22 rfl (by decide) rfl ?_
    refine a_iload_n C0 dX1_readCopy_23 rfl 0 rfl ?_
    refine a_aload_n C0 dX1_readCopy_24 rfl 1 rfl ?_
    refine a_get C0 inX1_readCopy_X1 0 rfl rfl 2 (by decide) lkX1_readCopy_38 (fun _ h9 => h9) (.ref q4) rfl dX1_readCopy_25 ?_
    obtain ⟨r_8, h_9, h⟩ := bd1_e h
    refine a_callVi C0 (wdX1_7 cA q0 q1 q2 q3 q4 q5 q6 q7 q8 q9 f0 f1 f2 f3_2 f4 f5 f6 f7 f8) (As := []) (rest := [.int x_7]) (ctX4_top l D cA q4 q5 f4 h_9) (cwV 0 C0.1.2.2.2.2 gX1_readCopy_X4_top rfl rfl rfl hdX4_top ⟨Nat.le_of_ble_eq_true rfl, Nat.le_of_ble_eq_true rfl⟩) [4] [0, 1, 2, 3, 5, 6, 7, 8] [0, 1, 2, 3, 8, 4, 5, 6, 7] rfl rfl rfl rfl (by decide) rfl rfl rfl rfl rfl rfl (Nat.le_of_ble_eq_true rfl) dX1_readCopy_28 ⟨Nat.zero_le _, Nat.zero_le _⟩ ?_
    refine a_aload_n C0 dX1_readCopy_31 rfl 1 rfl ?_
    refine a_get C0 inX1_readCopy_X1 0 rfl rfl 3 (by decide) lkX1_readCopy_9 (fun _ h9 => h9) (.ref q6) rfl dX1_readCopy_32 ?_
    refine a_aload_n C0 dX1_readCopy_35 rfl 1 rfl ?_
    refine a_get C0 inX1_readCopy_X1 0 rfl rfl 7 (by decide) lkX1_readCopy_43 (fun _ h9 => h9) (.int (f0 7)) rfl dX1_readCopy_36 ?_
    obtain ⟨g_10, h⟩ := gi_e h
    refine a_iald C0 6 0 rfl rfl g_10 dX1_readCopy_39 ?_
    refine a_isub C0 dX1_readCopy_40 ?_
    refine a_icmp_le C0 57 dX1_readCopy_41 (by decide) (fun c_11 => ?_) (fun c_11 => ?_)
    · have h := it_ c_11 h
      refine a_aload_n C0 dX1_readCopy_57 rfl 1 rfl ?_
      refine a_dup C0 dX1_readCopy_58 rfl ?_
      refine a_get C0 inX1_readCopy_X1 0 rfl rfl 8 (by decide) lkX1_readCopy_47 (fun _ h9 => h9) (.int (f0 8)) rfl dX1_readCopy_59 ?_
      refine a_iconst C0 (1 : Int32) dX1_readCopy_62 (by decide) ?_
      refine a_iadd C0 dX1_readCopy_63 ?_
      obtain ⟨f0_12, ef0_12, h⟩ := lt_e h
      refine a_put C0 inX1_readCopy_X1 tyX1 tyX1_ok nmX1 0 rfl rfl 8 (by decide) lkX1_readCopy_47 (fun _ h9 => h9) rfl (ty := .int) (v := .int ((f0 8) + (1 : Int32))) (by decide +kernel) rfl rfl (Nat.le_of_ble_eq_true rfl) dX1_readCopy_64 (wdX1_7 cA q0 q1 q2 q3 q4 q5 q6 q7 q8 q9 f0_12 f1 f2 f3_2 f4 f5 f6 f7 f8) (by subst ef0_12; rfl) ?_
      refine a_aload_n C0 dX1_readCopy_67 rfl 1 rfl ?_
      refine a_iload_n C0 dX1_readCopy_68 rfl 0 rfl ?_
      refine a_iload_n C0 dX1_readCopy_69 rfl 2 rfl ?_
      obtain ⟨r_13, h_14, h⟩ := bd1_e h
      refine a_callSNi C0 (wdX1_7 cA q0 q1 q2 q3 q4 q5 q6 q7 q8 q9 f0_12 f1 f2 f3_2 f4 f5 f6 f7 f8) (As := [.int a1]) (rest := [.int x_7, .ref q0]) (ctX6_copyCount l D cA a1 h_14) ⟨va_cnB 1 C0.1.2.2.2.2 gX1_readCopy_X6_copyCount_n131 rfl rfl rfl (C0.2.2.2.1.2.2 (RX1, 131, yX6_copyCount, RX6) nmX1_readCopy_131) (C0.1.2.2.2.2 (.initialized RX6) niX1_readCopy_X6) hdX6_copyCount.2 ⟨Nat.le_of_ble_eq_true rfl, Nat.le_of_ble_eq_true rfl⟩, (C0.1.2.2.2.2 (.static yX6_copyCount) nsX1_readCopy_X6_copyCount), trivial⟩ [] [0, 1, 2, 3, 4, 5, 6, 7, 8] [0, 1, 2, 3, 4, 5, 6, 7, 8] rfl rfl rfl rfl (by decide) rfl rfl rfl rfl (Nat.le_of_ble_eq_true rfl) dX1_readCopy_70 ⟨Nat.zero_le _, Nat.zero_le _⟩ ?_
      refine a_aload_n C0 dX1_readCopy_73 rfl 1 rfl ?_
      refine a_get C0 inX1_readCopy_X1 0 rfl rfl 10 (by decide) lkX1_readCopy_88 (fun _ h9 => h9) (.int (f0_12 10)) rfl dX1_readCopy_74 ?_
      obtain ⟨f3_15, f4_16, f5_17, h_18, h⟩ := bd3_e h
      refine a_callVv C0 (wdX1_7 cA q0 q1 q2 q3 q4 q5 q6 q7 q8 q9 f0_12 f1 f2 f3_15 f4_16 f5_17 f6 f7 f8) (As := [.int x_7, .int r_13, .int (f0_12 10)]) (rest := []) (ctX1_giveFromBefore l D cA q0 q1 q3 q4 q5 q6 q7 q8 q9 N x_7 r_13 (f0_12 10) f0_12 f3_2 f4 f5 h_18) (cwV 3 C0.1.2.2.2.2 gX1_readCopy_X1_giveFromBefore rfl rfl rfl hdX1_giveFromBefore ⟨Nat.le_of_ble_eq_true rfl, Nat.le_of_ble_eq_true rfl⟩) [0, 3, 4, 5] [1, 2, 6, 7, 8] [5, 0, 1, 6, 7, 8, 2, 3, 4] rfl rfl rfl rfl (by decide) rfl rfl rfl rfl rfl rfl (Nat.le_of_ble_eq_true rfl) dX1_readCopy_77 ⟨Nat.zero_le _, Nat.zero_le _⟩ ?_
      obtain rfl := Option.some.inj h
      exact a_vret C0 dX1_readCopy_80 rfl
    · have h := ie_ c_11 h
      refine a_aload_n C0 dX1_readCopy_44 rfl 1 rfl ?_
      refine a_get C0 inX1_readCopy_X1 0 rfl rfl 1 (by decide) lkX1_readCopy_28 (fun _ h9 => h9) (.ref q3) rfl dX1_readCopy_45 ?_
      refine a_iconst C0 (3 : Int32) dX1_readCopy_48 (by decide) ?_
      refine a_aload_n C0 dX1_readCopy_49 rfl 1 rfl ?_
      refine a_get C0 inX1_readCopy_X1 0 rfl rfl 8 (by decide) lkX1_readCopy_47 (fun _ h9 => h9) (.int (f0 8)) rfl dX1_readCopy_50 ?_
      obtain ⟨f3_19, h_20, h⟩ := bd1_e h
      refine a_callVv C0 (wdX1_7 cA q0 q1 q2 q3 q4 q5 q6 q7 q8 q9 f0 f1 f2 f3_19 f4 f5 f6 f7 f8) (As := [.int (3 : Int32), .int (f0 8)]) (rest := []) (ctX0_fail l D cA q3 q4 (3 : Int32) (f0 8) f3_2 h_20) (cwV 2 C0.1.2.2.2.2 gX1_readCopy_X0_fail rfl rfl rfl hdX0_fail ⟨Nat.le_of_ble_eq_true rfl, Nat.le_of_ble_eq_true rfl⟩) [3] [0, 1, 2, 4, 5, 6, 7, 8] [0, 1, 2, 8, 3, 4, 5, 6, 7] rfl rfl rfl rfl (by decide) rfl rfl rfl rfl rfl rfl (Nat.le_of_ble_eq_true rfl) dX1_readCopy_53 ⟨Nat.zero_le _, Nat.zero_le _⟩ ?_
      obtain rfl := Option.some.inj h
      exact a_vret C0 dX1_readCopy_56 rfl
  · have h := it_ c_4 h
    obtain rfl := Option.some.inj h
    exact a_vret C0 dX1_readCopy_8 rfl
set_option maxRecDepth 100000 in
theorem ctX1_readCopy (l : Launch) (D : va_G) (cA : ClassId) (q0 q1 q2 q3 q4 q5 q6 q7 q8 q9 : Nat) (N : Nat) (a1 : Int32) (f0 : Nat → Int32) (f1 : Nat → Int32) (f2 : Nat → Int32) (f3 : Nat → Int32) (f4 : Nat → Int32) (f5 : Nat → Int32) (f6 : Nat → Int32) (f7 : Nat → Int32) (f8 : Nat → Int32) {res : (Nat → Int32) × (Nat → Int32) × (Nat → Int32) × (Nat → Int32)} (h : pX1_readCopy N a1 f0 f1 f2 f3 f4 f5 f6 f7 f8 = some res) : Ctv l yX1_readCopy wsX1_readCopy (rmX1_readCopy) D vwCl [(cA, .int)] [.ref q0, .int a1] (wdX1_7 cA q0 q1 q2 q3 q4 q5 q6 q7 q8 q9 f0 f1 f2 f3 f4 f5 f6 f7 f8) (wdX1_7 cA q0 q1 q2 q3 q4 q5 q6 q7 q8 q9 res.1 f1 f2 res.2.1 res.2.2.1 res.2.2.2 f6 f7 f8) 0 0 :=
  ct_n (S := Unit) (maxL := 3) (cc := cX1_readCopy) (by decide) rfl (Nat.le_of_ble_eq_true rfl) (fun p e s m below meth c _ C0 => bwX1_readCopy C0 N a1 f0 f1 f2 f3 f4 f5 f6 f7 f8 h)
/-! PackDrawer$AheadReader.readInner -/
abbrev wdX1_8 (cA : ClassId) (q0 q1 q2 q3 q4 q5 q6 q7 q8 q9 : Nat) (f0 : Nat → Int32) (f1 : Nat → Int32) (f2 : Nat → Int32) (f3 : Nat → Int32) (f4 : Nat → Int32) (f6 : Nat → Int32) (f7 : Nat → Int32) (f8 : Nat → Int32) (f9 : Nat → Int32) : va_W := [(q0, .inr (1, [.ref q1, .ref q3, .ref q4, .ref q6, .ref q7, .ref q8, .ref q9, .int (f0 7), .int (f0 8), .int (f0 9), .int (f0 10), .int (f0 11)])), (q1, .inr (5, [.ref q2, .int (f1 1)])), (q2, .inl (cA, 160, .inl f2)), (q3, .inr (0, [.ref q4, .int (f3 1), .int (f3 2), .int (f3 3), .int (f3 4), .int (f3 5), .int (f3 6), .int (f3 7), .int (f3 8), .int (f3 9), .int (f3 10), .int (f3 11)])), (q4, .inr (4, [.ref q5, .int (f4 1)])), (q6, .inl (cA, 7, .inl f6)), (q7, .inl (cA, 7, .inl f7)), (q8, .inl (cA, 7, .inl f8)), (q9, .inl (cA, 7, .inl f9))]
theorem hdX1_enterPack : yX1_enterPack.cls = RX1 ∧ yX1_enterPack.cls ≠ "java/lang/invoke/MethodHandle" ∧ yX1_enterPack.cls ≠ "java/lang/invoke/VarHandle" ∧ (parseMethodDescriptor yX1_enterPack.desc).map (fun d => d.parameters.length) = some 3 := by decide +kernel
abbrev rmX1_readInner : Room := { frames := 3, cells := 0, slots := 0, locals := 65 }
theorem lkX1_readInner_43 : Cond.fieldLink RX1 43 RX1 (TX1 7).2.1 (TX1 7).2.2.1 ∈ wsX1_readInner := by decide +kernel
theorem inX1_readInner_X1 : ∀ w ∈ u_ws RX1 TX1 12, w ∈ wsX1_readInner := by decide +kernel
theorem lkX1_readInner_24 : Cond.fieldLink RX1 24 RX1 (TX1 0).2.1 (TX1 0).2.2.1 ∈ wsX1_readInner := by decide +kernel
theorem lkX1_readInner_47 : Cond.fieldLink RX1 47 RX1 (TX1 8).2.1 (TX1 8).2.2.1 ∈ wsX1_readInner := by decide +kernel
theorem lkX1_readInner_15 : Cond.fieldLink RX1 15 RX1 (TX1 4).2.1 (TX1 4).2.2.1 ∈ wsX1_readInner := by decide +kernel
theorem lkX1_readInner_78 : Cond.fieldLink RX1 78 RX1 (TX1 9).2.1 (TX1 9).2.2.1 ∈ wsX1_readInner := by decide +kernel
theorem lkX1_readInner_28 : Cond.fieldLink RX1 28 RX1 (TX1 1).2.1 (TX1 1).2.2.1 ∈ wsX1_readInner := by decide +kernel
theorem lkX1_readInner_88 : Cond.fieldLink RX1 88 RX1 (TX1 10).2.1 (TX1 10).2.2.1 ∈ wsX1_readInner := by decide +kernel
def pX1_readInner (f0 : Nat → Int32) (f1 : Nat → Int32) (f2 : Nat → Int32) (f3 : Nat → Int32) (f4 : Nat → Int32) (f6 : Nat → Int32) (f7 : Nat → Int32) (f8 : Nat → Int32) (f9 : Nat → Int32) : Option ((Nat → Int32) × (Nat → Int32) × (Nat → Int32) × (Nat → Int32) × (Nat → Int32) × (Nat → Int32)) := if (f0 7) < (6 : Int32) then bd2 (pX1_stand (1 : Int32) f0 f3 f7 f8) (fun r_2 f3_3 => if r_2 = 0 then some (f0, f3_3, f6, f7, f8, f9) else bd1 (pX5_byteAt (f0 8) f1 f2) (fun r_6 => gi_ (f0 7) 7 (if r_6 ≤ (((f7 (f0 7).toNatClampNeg) - (f0 8)) - (1 : Int32)) then lt_ (upd f0 8 ((f0 8) + (1 : Int32))) (fun f0_10 => bd6 (pX1_enterPack ((f0_10 8) + r_6) ((f0_10 8) - (1 : Int32)) (f0_10 9) f0_10 f3_3 f4 f6 f7 f8 f9) (fun f0_11 f3_12 f6_13 f7_14 f8_15 f9_16 => some (f0_11, f3_12, f6_13, f7_14, f8_15, f9_16))) else bd1 (pX0_fail (2 : Int32) (f0 8) f3_3) (fun f3_18 => some (f0, f3_18, f6, f7, f8, f9))))) else bd1 (pX0_fail (6 : Int32) (f0 10) f3) (fun f3_20 => some (f0, f3_20, f6, f7, f8, f9))
set_option maxHeartbeats 4000000 in
set_option maxRecDepth 100000 in
theorem bwX1_readInner {p : Program} {l : Launch} {e : Env} {s : State} {m : MethodId} {args : Array Value} {below : List Frame} {meth : Method} {c : Code} {D : va_G} {A : Nat → Prop} {cA : ClassId} {q0 q1 q2 q3 q4 q5 q6 q7 q8 q9 : Nat} {res : (Nat → Int32) × (Nat → Int32) × (Nat → Int32) × (Nat → Int32) × (Nat → Int32) × (Nat → Int32)} (C0 : cx p s m args meth c cX1_readInner 2 RX1 wsX1_readInner none D vwCl [(cA, .int)] A) (f0 : Nat → Int32) (f1 : Nat → Int32) (f2 : Nat → Int32) (f3 : Nat → Int32) (f4 : Nat → Int32) (f6 : Nat → Int32) (f7 : Nat → Int32) (f8 : Nat → Int32) (f9 : Nat → Int32) (h : pX1_readInner f0 f1 f2 f3 f4 f6 f7 f8 f9 = some res) : At_ p l e (rmX1_readInner) s m args below meth c D vwCl A 2 0 0 (Qv_ below args s D vwCl A (wdX1_8 cA q0 q1 q2 q3 q4 q5 q6 q7 q8 q9 res.1 f1 f2 res.2.1 f4 res.2.2.1 res.2.2.2.1 res.2.2.2.2.1 res.2.2.2.2.2)) 0 [(0, .ref q0)] [] (wdX1_8 cA q0 q1 q2 q3 q4 q5 q6 q7 q8 q9 f0 f1 f2 f3 f4 f6 f7 f8 f9) := by
  unfold pX1_readInner at h
  refine a_aload_n C0 dX1_readInner_0 rfl 0 rfl ?_
  refine a_get C0 inX1_readInner_X1 0 rfl rfl 7 (by decide) lkX1_readInner_43 (fun _ h9 => h9) (.int (f0 7)) rfl dX1_readInner_1 ?_
  refine a_bipush C0 (6 : Int32) dX1_readInner_4 (by decide) ?_
  refine a_icmp_lt C0 23 dX1_readInner_6 (by decide) (fun c_1 => ?_) (fun c_1 => ?_)
  · have h := it_ c_1 h
    refine a_aload_n C0 dX1_readInner_23 rfl 0 rfl ?_
    refine a_iconst C0 (1 : Int32) dX1_readInner_24 (by decide) ?_
    obtain ⟨r_2, f3_3, h_4, h⟩ := bd2_e h
    refine a_callVi C0 (wdX1_8 cA q0 q1 q2 q3 q4 q5 q6 q7 q8 q9 f0 f1 f2 f3_3 f4 f6 f7 f8 f9) (As := [.int (1 : Int32)]) (rest := []) (ctX1_stand l D cA q0 q1 q3 q4 q6 q7 q8 q9 (1 : Int32) f0 f3 f7 f8 h_4) (cwV 1 C0.1.2.2.2.2 gX1_readInner_X1_stand rfl rfl rfl hdX1_stand ⟨Nat.le_of_ble_eq_true rfl, Nat.le_of_ble_eq_true rfl⟩) [0, 3, 6, 7] [1, 2, 4, 5, 8] [5, 0, 1, 6, 2, 3, 7, 8, 4] rfl rfl rfl rfl (by decide) rfl rfl rfl rfl rfl rfl (Nat.le_of_ble_eq_true rfl) dX1_readInner_25 ⟨Nat.zero_le _, Nat.zero_le _⟩ ?_
    refine a_if_ne C0 32 dX1_readInner_28 (by decide) (fun c_5 => ?_) (fun c_5 => ?_)
    · have h := ie_ c_5 h
      refine a_aload_n C0 dX1_readInner_32 rfl 0 rfl ?_
      refine a_get C0 inX1_readInner_X1 0 rfl rfl 0 (by decide) lkX1_readInner_24 (fun _ h9 => h9) (.ref q1) rfl dX1_readInner_33 ?_
      refine a_aload_n C0 dX1_readInner_36 rfl 0 rfl ?_
      refine a_get C0 inX1_readInner_X1 0 rfl rfl 8 (by decide) lkX1_readInner_47 (fun _ h9 => h9) (.int (f0 8)) rfl dX1_readInner_37 ?_
      obtain ⟨r_6, h_7, h⟩ := bd1_e h
      refine a_callVi C0 (wdX1_8 cA q0 q1 q2 q3 q4 q5 q6 q7 q8 q9 f0 f1 f2 f3_3 f4 f6 f7 f8 f9) (As := [.int (f0 8)]) (rest := []) (ctX5_byteAt l D cA q1 q2 (f0 8) f1 f2 h_7) (cwV 1 C0.1.2.2.2.2 gX1_readInner_X5_byteAt rfl rfl rfl hdX5_byteAt ⟨Nat.le_of_ble_eq_true rfl, Nat.le_of_ble_eq_true rfl⟩) [1, 2] [0, 3, 4, 5, 6, 7, 8] [0, 7, 8, 1, 2, 3, 4, 5, 6] rfl rfl rfl rfl (by decide) rfl rfl rfl rfl rfl rfl (Nat.le_of_ble_eq_true rfl) dX1_readInner_40 ⟨Nat.zero_le _, Nat.zero_le _⟩ ?_
      refine a_istore_n C0 [(1, .int r_6), (0, .ref q0)] dX1_readInner_43 rfl (by decide) rfl ?_
      refine a_iload_n C0 dX1_readInner_44 rfl 0 rfl ?_
      refine a_aload_n C0 dX1_readInner_45 rfl 1 rfl ?_
      refine a_get C0 inX1_readInner_X1 0 rfl rfl 4 (by decide) lkX1_readInner_15 (fun _ h9 => h9) (.ref q7) rfl dX1_readInner_46 ?_
      refine a_aload_n C0 dX1_readInner_49 rfl 1 rfl ?_
      refine a_get C0 inX1_readInner_X1 0 rfl rfl 7 (by decide) lkX1_readInner_43 (fun _ h9 => h9) (.int (f0 7)) rfl dX1_readInner_50 ?_
      obtain ⟨g_8, h⟩ := gi_e h
      refine a_iald C0 6 0 rfl rfl g_8 dX1_readInner_53 ?_
      refine a_aload_n C0 dX1_readInner_54 rfl 1 rfl ?_
      refine a_get C0 inX1_readInner_X1 0 rfl rfl 8 (by decide) lkX1_readInner_47 (fun _ h9 => h9) (.int (f0 8)) rfl dX1_readInner_55 ?_
      refine a_isub C0 dX1_readInner_58 ?_
      refine a_iconst C0 (1 : Int32) dX1_readInner_59 (by decide) ?_
      refine a_isub C0 dX1_readInner_60 ?_
      refine a_icmp_le C0 77 dX1_readInner_61 (by decide) (fun c_9 => ?_) (fun c_9 => ?_)
      · have h := it_ c_9 h
        refine a_aload_n C0 dX1_readInner_77 rfl 1 rfl ?_
        refine a_dup C0 dX1_readInner_78 rfl ?_
        refine a_get C0 inX1_readInner_X1 0 rfl rfl 8 (by decide) lkX1_readInner_47 (fun _ h9 => h9) (.int (f0 8)) rfl dX1_readInner_79 ?_
        refine a_iconst C0 (1 : Int32) dX1_readInner_82 (by decide) ?_
        refine a_iadd C0 dX1_readInner_83 ?_
        obtain ⟨f0_10, ef0_10, h⟩ := lt_e h
        refine a_put C0 inX1_readInner_X1 tyX1 tyX1_ok nmX1 0 rfl rfl 8 (by decide) lkX1_readInner_47 (fun _ h9 => h9) rfl (ty := .int) (v := .int ((f0 8) + (1 : Int32))) (by decide +kernel) rfl rfl (Nat.le_of_ble_eq_true rfl) dX1_readInner_84 (wdX1_8 cA q0 q1 q2 q3 q4 q5 q6 q7 q8 q9 f0_10 f1 f2 f3_3 f4 f6 f7 f8 f9) (by subst ef0_10; rfl) ?_
        refine a_aload_n C0 dX1_readInner_87 rfl 1 rfl ?_
        refine a_aload_n C0 dX1_readInner_88 rfl 1 rfl ?_
        refine a_get C0 inX1_readInner_X1 0 rfl rfl 8 (by decide) lkX1_readInner_47 (fun _ h9 => h9) (.int (f0_10 8)) rfl dX1_readInner_89 ?_
        refine a_iload_n C0 dX1_readInner_92 rfl 0 rfl ?_
        refine a_iadd C0 dX1_readInner_93 ?_
        refine a_aload_n C0 dX1_readInner_94 rfl 1 rfl ?_
        refine a_get C0 inX1_readInner_X1 0 rfl rfl 8 (by decide) lkX1_readInner_47 (fun _ h9 => h9) (.int (f0_10 8)) rfl dX1_readInner_95 ?_
        refine a_iconst C0 (1 : Int32) dX1_readInner_98 (by decide) ?_
        refine a_isub C0 dX1_readInner_99 ?_
        refine a_aload_n C0 dX1_readInner_100 rfl 1 rfl ?_
        refine a_get C0 inX1_readInner_X1 0 rfl rfl 9 (by decide) lkX1_readInner_78 (fun _ h9 => h9) (.int (f0_10 9)) rfl dX1_readInner_101 ?_
        obtain ⟨f0_11, f3_12, f6_13, f7_14, f8_15, f9_16, h_17, h⟩ := bd6_e h
        refine a_callVv C0 (wdX1_8 cA q0 q1 q2 q3 q4 q5 q6 q7 q8 q9 f0_11 f1 f2 f3_12 f4 f6_13 f7_14 f8_15 f9_16) (As := [.int ((f0_10 8) + r_6), .int ((f0_10 8) - (1 : Int32)), .int (f0_10 9)]) (rest := []) (ctX1_enterPack l D cA q0 q1 q3 q4 q5 q6 q7 q8 q9 ((f0_10 8) + r_6) ((f0_10 8) - (1 : Int32)) (f0_10 9) f0_10 f3_3 f4 f6 f7 f8 f9 h_17) (cwV 3 C0.1.2.2.2.2 gX1_readInner_X1_enterPack rfl rfl rfl hdX1_enterPack ⟨Nat.le_of_ble_eq_true rfl, Nat.le_of_ble_eq_true rfl⟩) [0, 3, 4, 5, 6, 7, 8] [1, 2] [2, 0, 1, 3, 4, 5, 6, 7, 8] rfl rfl rfl rfl (by decide) rfl rfl rfl rfl rfl rfl (Nat.le_of_ble_eq_true rfl) dX1_readInner_104 ⟨Nat.zero_le _, Nat.zero_le _⟩ ?_
        obtain rfl := Option.some.inj h
        exact a_vret C0 dX1_readInner_107 rfl
      · have h := ie_ c_9 h
        refine a_aload_n C0 dX1_readInner_64 rfl 1 rfl ?_
        refine a_get C0 inX1_readInner_X1 0 rfl rfl 1 (by decide) lkX1_readInner_28 (fun _ h9 => h9) (.ref q3) rfl dX1_readInner_65 ?_
        refine a_iconst C0 (2 : Int32) dX1_readInner_68 (by decide) ?_
        refine a_aload_n C0 dX1_readInner_69 rfl 1 rfl ?_
        refine a_get C0 inX1_readInner_X1 0 rfl rfl 8 (by decide) lkX1_readInner_47 (fun _ h9 => h9) (.int (f0 8)) rfl dX1_readInner_70 ?_
        obtain ⟨f3_18, h_19, h⟩ := bd1_e h
        refine a_callVv C0 (wdX1_8 cA q0 q1 q2 q3 q4 q5 q6 q7 q8 q9 f0 f1 f2 f3_18 f4 f6 f7 f8 f9) (As := [.int (2 : Int32), .int (f0 8)]) (rest := []) (ctX0_fail l D cA q3 q4 (2 : Int32) (f0 8) f3_3 h_19) (cwV 2 C0.1.2.2.2.2 gX1_readInner_X0_fail rfl rfl rfl hdX0_fail ⟨Nat.le_of_ble_eq_true rfl, Nat.le_of_ble_eq_true rfl⟩) [3] [0, 1, 2, 4, 5, 6, 7, 8] [0, 1, 2, 8, 3, 4, 5, 6, 7] rfl rfl rfl rfl (by decide) rfl rfl rfl rfl rfl rfl (Nat.le_of_ble_eq_true rfl) dX1_readInner_73 ⟨Nat.zero_le _, Nat.zero_le _⟩ ?_
        obtain rfl := Option.some.inj h
        exact a_vret C0 dX1_readInner_76 rfl
    · have h := it_ c_5 h
      obtain rfl := Option.some.inj h
      exact a_vret C0 dX1_readInner_31 rfl
  · have h := ie_ c_1 h
    refine a_aload_n C0 dX1_readInner_9 rfl 0 rfl ?_
    refine a_get C0 inX1_readInner_X1 0 rfl rfl 1 (by decide) lkX1_readInner_28 (fun _ h9 => h9) (.ref q3) rfl dX1_readInner_10 ?_
    refine a_bipush C0 (6 : Int32) dX1_readInner_13 (by decide) ?_
    refine a_aload_n C0 dX1_readInner_15 rfl 0 rfl ?_
    refine a_get C0 inX1_readInner_X1 0 rfl rfl 10 (by decide) lkX1_readInner_88 (fun _ h9 => h9) (.int (f0 10)) rfl dX1_readInner_16 ?_
    obtain ⟨f3_20, h_21, h⟩ := bd1_e h
    refine a_callVv C0 (wdX1_8 cA q0 q1 q2 q3 q4 q5 q6 q7 q8 q9 f0 f1 f2 f3_20 f4 f6 f7 f8 f9) (As := [.int (6 : Int32), .int (f0 10)]) (rest := []) (ctX0_fail l D cA q3 q4 (6 : Int32) (f0 10) f3 h_21) (cwV 2 C0.1.2.2.2.2 gX1_readInner_X0_fail rfl rfl rfl hdX0_fail ⟨Nat.le_of_ble_eq_true rfl, Nat.le_of_ble_eq_true rfl⟩) [3] [0, 1, 2, 4, 5, 6, 7, 8] [0, 1, 2, 8, 3, 4, 5, 6, 7] rfl rfl rfl rfl (by decide) rfl rfl rfl rfl rfl rfl (Nat.le_of_ble_eq_true rfl) dX1_readInner_19 ⟨Nat.zero_le _, Nat.zero_le _⟩ ?_
    obtain rfl := Option.some.inj h
    exact a_vret C0 dX1_readInner_22 rfl
set_option maxRecDepth 100000 in
theorem ctX1_readInner (l : Launch) (D : va_G) (cA : ClassId) (q0 q1 q2 q3 q4 q5 q6 q7 q8 q9 : Nat) (f0 : Nat → Int32) (f1 : Nat → Int32) (f2 : Nat → Int32) (f3 : Nat → Int32) (f4 : Nat → Int32) (f6 : Nat → Int32) (f7 : Nat → Int32) (f8 : Nat → Int32) (f9 : Nat → Int32) {res : (Nat → Int32) × (Nat → Int32) × (Nat → Int32) × (Nat → Int32) × (Nat → Int32) × (Nat → Int32)} (h : pX1_readInner f0 f1 f2 f3 f4 f6 f7 f8 f9 = some res) : Ctv l yX1_readInner wsX1_readInner (rmX1_readInner) D vwCl [(cA, .int)] [.ref q0] (wdX1_8 cA q0 q1 q2 q3 q4 q5 q6 q7 q8 q9 f0 f1 f2 f3 f4 f6 f7 f8 f9) (wdX1_8 cA q0 q1 q2 q3 q4 q5 q6 q7 q8 q9 res.1 f1 f2 res.2.1 f4 res.2.2.1 res.2.2.2.1 res.2.2.2.2.1 res.2.2.2.2.2) 0 0 :=
  ct_n (S := Unit) (maxL := 2) (cc := cX1_readInner) (by decide) rfl (Nat.le_of_ble_eq_true rfl) (fun p e s m below meth c _ C0 => bwX1_readInner C0 f0 f1 f2 f3 f4 f6 f7 f8 f9 h)
