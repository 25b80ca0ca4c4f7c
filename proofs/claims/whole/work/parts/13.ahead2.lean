/-! PackDrawer$AheadReader.leaveInner -/
theorem hdX0_release : yX0_release.cls = RX0 ∧ yX0_release.cls ≠ "java/lang/invoke/MethodHandle" ∧ yX0_release.cls ≠ "java/lang/invoke/VarHandle" ∧ (parseMethodDescriptor yX0_release.desc).map (fun d => d.parameters.length) = some 1 := by decide +kernel
abbrev rmX1_leaveInner : Room := { frames := 2, cells := 0, slots := 0, locals := 46 }
theorem lkX1_leaveInner_18 : Cond.fieldLink RX1 18 RX1 (TX1 5).2.1 (TX1 5).2.2.1 ∈ wsX1_leaveInner := by decide +kernel
theorem inX1_leaveInner_X1 : ∀ w ∈ u_ws RX1 TX1 12, w ∈ wsX1_leaveInner := by decide +kernel
theorem lkX1_leaveInner_43 : Cond.fieldLink RX1 43 RX1 (TX1 7).2.1 (TX1 7).2.2.1 ∈ wsX1_leaveInner := by decide +kernel
theorem lkX1_leaveInner_47 : Cond.fieldLink RX1 47 RX1 (TX1 8).2.1 (TX1 8).2.2.1 ∈ wsX1_leaveInner := by decide +kernel
theorem lkX1_leaveInner_15 : Cond.fieldLink RX1 15 RX1 (TX1 4).2.1 (TX1 4).2.2.1 ∈ wsX1_leaveInner := by decide +kernel
theorem lkX1_leaveInner_21 : Cond.fieldLink RX1 21 RX1 (TX1 6).2.1 (TX1 6).2.2.1 ∈ wsX1_leaveInner := by decide +kernel
theorem lkX1_leaveInner_78 : Cond.fieldLink RX1 78 RX1 (TX1 9).2.1 (TX1 9).2.2.1 ∈ wsX1_leaveInner := by decide +kernel
theorem lkX1_leaveInner_88 : Cond.fieldLink RX1 88 RX1 (TX1 10).2.1 (TX1 10).2.2.1 ∈ wsX1_leaveInner := by decide +kernel
theorem lkX1_leaveInner_9 : Cond.fieldLink RX1 9 RX1 (TX1 3).2.1 (TX1 3).2.2.1 ∈ wsX1_leaveInner := by decide +kernel
theorem lkX1_leaveInner_91 : Cond.fieldLink RX1 91 RX1 (TX1 11).2.1 (TX1 11).2.2.1 ∈ wsX1_leaveInner := by decide +kernel
theorem lkX1_leaveInner_38 : Cond.fieldLink RX1 38 RX1 (TX1 2).2.1 (TX1 2).2.2.1 ∈ wsX1_leaveInner := by decide +kernel
theorem lkX1_leaveInner_28 : Cond.fieldLink RX1 28 RX1 (TX1 1).2.1 (TX1 1).2.2.1 ∈ wsX1_leaveInner := by decide +kernel
def pX1_leaveInner (f0 : Nat → Int32) (f3 : Nat → Int32) (f4 : Nat → Int32) (f6 : Nat → Int32) (f7 : Nat → Int32) (f8 : Nat → Int32) (f9 : Nat → Int32) : Option ((Nat → Int32) × (Nat → Int32)) := gi_ (f0 7) 7 (lt_ ((f8 (f0 7).toNatClampNeg)) (fun x_2 => gi_ (f0 7) 7 (if (f7 (f0 7).toNatClampNeg) ≤ (f0 8) then gi_ (f0 7) 7 (lt_ (upd f0 9 (f9 (f0 7).toNatClampNeg)) (fun f0_6 => lt_ (upd f0_6 10 (x_2 - (1 : Int32))) (fun f0_7 => gi_ (f0_7 7) 7 (lt_ (upd f0_7 11 (f6 (f0_7 7).toNatClampNeg)) (fun f0_9 => lt_ (upd f0_9 7 ((f0_9 7) - (1 : Int32))) (fun f0_10 => bd1 (pX4_top f4) (fun r_11 => lt_ ((r_11 - (f0_10 11))) (fun x_13 => bd1 (pX1_isOutermost f0_10) (fun r_14 => bd2 (pX0_ask x_13 (f0_10 10) r_14 f3) (fun r_16 f3_17 => bd1 (pX0_release x_13 f3_17) (fun f3_19 => some (f0_10, f3_19)))))))))))) else bd1 (pX0_fail (2 : Int32) x_2 f3) (fun f3_21 => some (f0, f3_21)))))
set_option maxHeartbeats 4000000 in
set_option maxRecDepth 100000 in
theorem bwX1_leaveInner {p : Program} {l : Launch} {e : Env} {s : State} {m : MethodId} {args : Array Value} {below : List Frame} {meth : Method} {c : Code} {D : va_G} {A : Nat → Prop} {cA : ClassId} {q0 q1 q3 q4 q5 q6 q7 q8 q9 : Nat} {res : (Nat → Int32) × (Nat → Int32)} (C0 : cx p s m args meth c cX1_leaveInner 3 RX1 wsX1_leaveInner none D vwCl [(cA, .int)] A) (f0 : Nat → Int32) (f3 : Nat → Int32) (f4 : Nat → Int32) (f6 : Nat → Int32) (f7 : Nat → Int32) (f8 : Nat → Int32) (f9 : Nat → Int32) (h : pX1_leaveInner f0 f3 f4 f6 f7 f8 f9 = some res) : At_ p l e (rmX1_leaveInner) s m args below meth c D vwCl A 3 0 0 (Qv_ below args s D vwCl A (wdX1_0 cA q0 q1 q3 q4 q5 q6 q7 q8 q9 res.1 res.2 f4 f6 f7 f8 f9)) 0 [(0, .ref q0)] [] (wdX1_0 cA q0 q1 q3 q4 q5 q6 q7 q8 q9 f0 f3 f4 f6 f7 f8 f9) := by
  unfold pX1_leaveInner at h
  refine a_aload_n C0 dX1_leaveInner_0 rfl 0 rfl ?_
  refine a_get C0 inX1_leaveInner_X1 0 rfl rfl 5 (by decide) lkX1_leaveInner_18 (fun _ h9 => h9) (.ref q8) rfl dX1_leaveInner_1 ?_
  refine a_aload_n C0 dX1_leaveInner_4 rfl 0 rfl ?_
  refine a_get C0 inX1_leaveInner_X1 0 rfl rfl 7 (by decide) lkX1_leaveInner_43 (fun _ h9 => h9) (.int (f0 7)) rfl dX1_leaveInner_5 ?_
  obtain ⟨g_1, h⟩ := gi_e h
  refine a_iald C0 5 0 rfl rfl g_1 dX1_leaveInner_8 ?_
  obtain ⟨x_2, ex_2, h⟩ := lt_e h
  refine a_topi ex_2 ?_
  refine a_istore_n C0 [(1, .int x_2), (0, .ref q0)] dX1_leaveInner_9 rfl (by decide) rfl ?_
  refine a_aload_n C0 dX1_leaveInner_10 rfl 1 rfl ?_
  refine a_get C0 inX1_leaveInner_X1 0 rfl rfl 8 (by decide) lkX1_leaveInner_47 (fun _ h9 => h9) (.int (f0 8)) rfl dX1_leaveInner_11 ?_
  refine a_aload_n C0 dX1_leaveInner_14 rfl 1 rfl ?_
  refine a_get C0 inX1_leaveInner_X1 0 rfl rfl 4 (by decide) lkX1_leaveInner_15 (fun _ h9 => h9) (.ref q7) rfl dX1_leaveInner_15 ?_
  refine a_aload_n C0 dX1_leaveInner_18 rfl 1 rfl ?_
  refine a_get C0 inX1_leaveInner_X1 0 rfl rfl 7 (by decide) lkX1_leaveInner_43 (fun _ h9 => h9) (.int (f0 7)) rfl dX1_leaveInner_19 ?_
  obtain ⟨g_3, h⟩ := gi_e h
  refine a_iald C0 4 0 rfl rfl g_3 dX1_leaveInner_22 ?_
  refine a_icmp_ge C0 36 dX1_leaveInner_23 (by decide) (fun c_4 => ?_) (fun c_4 => ?_)
  · have h := it_ c_4 h
    refine a_aload_n C0 dX1_leaveInner_36 rfl 1 rfl ?_
    refine a_aload_n C0 dX1_leaveInner_37 rfl 1 rfl ?_
    refine a_get C0 inX1_leaveInner_X1 0 rfl rfl 6 (by decide) lkX1_leaveInner_21 (fun _ h9 => h9) (.ref q9) rfl dX1_leaveInner_38 ?_
    refine a_aload_n C0 dX1_leaveInner_41 rfl 1 rfl ?_
    refine a_get C0 inX1_leaveInner_X1 0 rfl rfl 7 (by decide) lkX1_leaveInner_43 (fun _ h9 => h9) (.int (f0 7)) rfl dX1_leaveInner_42 ?_
    obtain ⟨g_5, h⟩ := gi_e h
    refine a_iald C0 6 0 rfl rfl g_5 dX1_leaveInner_45 ?_
    obtain ⟨f0_6, ef0_6, h⟩ := lt_e h
    refine a_put C0 inX1_leaveInner_X1 tyX1 tyX1_ok nmX1 0 rfl rfl 9 (by decide) lkX1_leaveInner_78 (fun _ h9 => h9) rfl (ty := .int) (v := .int (f9 (f0 7).toNatClampNeg)) (by decide +kernel) rfl rfl (Nat.le_of_ble_eq_true rfl) dX1_leaveInner_46 (wdX1_0 cA q0 q1 q3 q4 q5 q6 q7 q8 q9 f0_6 f3 f4 f6 f7 f8 f9) (by subst ef0_6; rfl) ?_
    refine a_aload_n C0 dX1_leaveInner_49 rfl 1 rfl ?_
    refine a_iload_n C0 dX1_leaveInner_50 rfl 0 rfl ?_
    refine a_iconst C0 (1 : Int32) dX1_leaveInner_51 (by decide) ?_
    refine a_isub C0 dX1_leaveInner_52 ?_
    obtain ⟨f0_7, ef0_7, h⟩ := lt_e h
    refine a_put C0 inX1_leaveInner_X1 tyX1 tyX1_ok nmX1 0 rfl rfl 10 (by decide) lkX1_leaveInner_88 (fun _ h9 => h9) rfl (ty := .int) (v := .int (x_2 - (1 : Int32))) (by decide +kernel) rfl rfl (Nat.le_of_ble_eq_true rfl) dX1_leaveInner_53 (wdX1_0 cA q0 q1 q3 q4 q5 q6 q7 q8 q9 f0_7 f3 f4 f6 f7 f8 f9) (by subst ef0_7; rfl) ?_
    refine a_aload_n C0 dX1_leaveInner_56 rfl 1 rfl ?_
    refine a_aload_n C0 dX1_leaveInner_57 rfl 1 rfl ?_
    refine a_get C0 inX1_leaveInner_X1 0 rfl rfl 3 (by decide) lkX1_leaveInner_9 (fun _ h9 => h9) (.ref q6) rfl dX1_leaveInner_58 ?_
    refine a_aload_n C0 dX1_leaveInner_61 rfl 1 rfl ?_
    refine a_get C0 inX1_leaveInner_X1 0 rfl rfl 7 (by decide) lkX1_leaveInner_43 (fun _ h9 => h9) (.int (f0_7 7)) rfl dX1_leaveInner_62 ?_
    obtain ⟨g_8, h⟩ := gi_e h
    refine a_iald C0 3 0 rfl rfl g_8 dX1_leaveInner_65 ?_
    obtain ⟨f0_9, ef0_9, h⟩ := lt_e h
    refine a_put C0 inX1_leaveInner_X1 tyX1 tyX1_ok nmX1 0 rfl rfl 11 (by decide) lkX1_leaveInner_91 (fun _ h9 => h9) rfl (ty := .int) (v := .int (f6 (f0_7 7).toNatClampNeg)) (by decide +kernel) rfl rfl (Nat.le_of_ble_eq_true rfl) dX1_leaveInner_66 (wdX1_0 cA q0 q1 q3 q4 q5 q6 q7 q8 q9 f0_9 f3 f4 f6 f7 f8 f9) (by subst ef0_9; rfl) ?_
    refine a_aload_n C0 dX1_leaveInner_69 rfl 1 rfl ?_
    refine a_dup C0 dX1_leaveInner_70 rfl ?_
    refine a_get C0 inX1_leaveInner_X1 0 rfl rfl 7 (by decide) lkX1_leaveInner_43 (fun _ h9 => h9) (.int (f0_9 7)) rfl dX1_leaveInner_71 ?_
    refine a_iconst C0 (1 : Int32) dX1_leaveInner_74 (by decide) ?_
    refine a_isub C0 dX1_leaveInner_75 ?_
    obtain ⟨f0_10, ef0_10, h⟩ := lt_e h
    refine a_put C0 inX1_leaveInner_X1 tyX1 tyX1_ok nmX1 0 rfl rfl 7 (by decide) lkX1_leaveInner_43 (fun _ h9 => h9) rfl (ty := .int) (v := .int ((f0_9 7) - (1 : Int32))) (by decide +kernel) rfl rfl (Nat.le_of_ble_eq_true rfl) dX1_leaveInner_76 (wdX1_0 cA q0 q1 q3 q4 q5 q6 q7 q8 q9 f0_10 f3 f4 f6 f7 f8 f9) (by subst ef0_10; rfl) ?_
    refine a_aload_n C0 dX1_leaveInner_79 rfl 1 rfl ?_
    refine a_get C0 inX1_leaveInner_X1 0 rfl rfl 2 (by decide) lkX1_leaveInner_38 (fun _ h9 => h9) (.ref q4) rfl dX1_leaveInner_80 ?_
    obtain ⟨r_11, h_12, h⟩ := bd1_e h
    refine a_callVi C0 (wdX1_0 cA q0 q1 q3 q4 q5 q6 q7 q8 q9 f0_10 f3 f4 f6 f7 f8 f9) (As := []) (rest := []) (ctX4_top l D cA q4 q5 f4 h_12) (cwV 0 C0.1.2.2.2.2 gX1_leaveInner_X4_top rfl rfl rfl hdX4_top ⟨Nat.le_of_ble_eq_true rfl, Nat.le_of_ble_eq_true rfl⟩) [2] [0, 1, 3, 4, 5, 6] [0, 1, 6, 2, 3, 4, 5] rfl rfl rfl rfl (by decide) rfl rfl rfl rfl rfl rfl (Nat.le_of_ble_eq_true rfl) dX1_leaveInner_83 ⟨Nat.zero_le _, Nat.zero_le _⟩ ?_
    refine a_aload_n C0 dX1_leaveInner_86 rfl 1 rfl ?_
    refine a_get C0 inX1_leaveInner_X1 0 rfl rfl 11 (by decide) lkX1_leaveInner_91 (fun _ h9 => h9) (.int (f0_10 11)) rfl dX1_leaveInner_87 ?_
    refine a_isub C0 dX1_leaveInner_90 ?_
    obtain ⟨x_13, ex_13, h⟩ := lt_e h
    refine a_topi ex_13 ?_
    refine a_istore_n C0 [(2, .int x_13), (1, .int x_2), (0, .ref q0)] dX1_leaveInner_91 rfl (by decide) rfl ?_
    refine a_aload_n C0 dX1_leaveInner_92 rfl 2 rfl ?_
    refine a_get C0 inX1_leaveInner_X1 0 rfl rfl 1 (by decide) lkX1_leaveInner_28 (fun _ h9 => h9) (.ref q3) rfl dX1_leaveInner_93 ?_
    refine a_iload_n C0 dX1_leaveInner_96 rfl 0 rfl ?_
    refine a_aload_n C0 dX1_leaveInner_97 rfl 2 rfl ?_
    refine a_get C0 inX1_leaveInner_X1 0 rfl rfl 10 (by decide) lkX1_leaveInner_88 (fun _ h9 => h9) (.int (f0_10 10)) rfl dX1_leaveInner_98 ?_
    refine a_aload_n C0 dX1_leaveInner_101 rfl 2 rfl ?_
    obtain ⟨r_14, h_15, h⟩ := bd1_e h
    refine a_callVi C0 (wdX1_0 cA q0 q1 q3 q4 q5 q6 q7 q8 q9 f0_10 f3 f4 f6 f7 f8 f9) (As := []) (rest := [.int (f0_10 10), .int x_13, .ref q3]) (ctX1_isOutermost l D cA q0 q1 q3 q4 q6 q7 q8 q9 f0_10 h_15) (cwV 0 C0.1.2.2.2.2 gX1_leaveInner_X1_isOutermost rfl rfl rfl hdX1_isOutermost ⟨Nat.le_of_ble_eq_true rfl, Nat.le_of_ble_eq_true rfl⟩) [0] [1, 2, 3, 4, 5, 6] [6, 0, 1, 2, 3, 4, 5] rfl rfl rfl rfl (by decide) rfl rfl rfl rfl rfl rfl (Nat.le_of_ble_eq_true rfl) dX1_leaveInner_102 ⟨Nat.zero_le _, Nat.zero_le _⟩ ?_
    obtain ⟨r_16, f3_17, h_18, h⟩ := bd2_e h
    refine a_callVi C0 (wdX1_0 cA q0 q1 q3 q4 q5 q6 q7 q8 q9 f0_10 f3_17 f4 f6 f7 f8 f9) (As := [.int x_13, .int (f0_10 10), .int r_14]) (rest := []) (ctX0_ask l D cA q3 q4 x_13 (f0_10 10) r_14 f3 h_18) (cwV 3 C0.1.2.2.2.2 gX1_leaveInner_X0_ask rfl rfl rfl hdX0_ask ⟨Nat.le_of_ble_eq_true rfl, Nat.le_of_ble_eq_true rfl⟩) [1] [0, 2, 3, 4, 5, 6] [0, 6, 1, 2, 3, 4, 5] rfl rfl rfl rfl (by decide) rfl rfl rfl rfl rfl rfl (Nat.le_of_ble_eq_true rfl) dX1_leaveInner_105 ⟨Nat.zero_le _, Nat.zero_le _⟩ ?_
    refine a_pop C0 dX1_leaveInner_108 rfl ?_
    refine a_aload_n C0 dX1_leaveInner_109 rfl 2 rfl ?_
    refine a_get C0 inX1_leaveInner_X1 0 rfl rfl 1 (by decide) lkX1_leaveInner_28 (fun _ h9 => h9) (.ref q3) rfl dX1_leaveInner_110 ?_
    refine a_iload_n C0 dX1_leaveInner_113 rfl 0 rfl ?_
    obtain ⟨f3_19, h_20, h⟩ := bd1_e h
    refine a_callVv C0 (wdX1_0 cA q0 q1 q3 q4 q5 q6 q7 q8 q9 f0_10 f3_19 f4 f6 f7 f8 f9) (As := [.int x_13]) (rest := []) (ctX0_release l D cA q3 q4 x_13 f3_17 h_20) (cwV 1 C0.1.2.2.2.2 gX1_leaveInner_X0_release rfl rfl rfl hdX0_release ⟨Nat.le_of_ble_eq_true rfl, Nat.le_of_ble_eq_true rfl⟩) [1] [0, 2, 3, 4, 5, 6] [0, 6, 1, 2, 3, 4, 5] rfl rfl rfl rfl (by decide) rfl rfl rfl rfl rfl rfl (Nat.le_of_ble_eq_true rfl) dX1_leaveInner_114 ⟨Nat.zero_le _, Nat.zero_le _⟩ ?_
    obtain rfl := Option.some.inj h
    exact a_vret C0 dX1_leaveInner_117 rfl
  · have h := ie_ c_4 h
    refine a_aload_n C0 dX1_leaveInner_26 rfl 1 rfl ?_
    refine a_get C0 inX1_leaveInner_X1 0 rfl rfl 1 (by decide) lkX1_leaveInner_28 (fun _ h9 => h9) (.ref q3) rfl dX1_leaveInner_27 ?_
    refine a_iconst C0 (2 : Int32) dX1_leaveInner_30 (by decide) ?_
    refine a_iload_n C0 dX1_leaveInner_31 rfl 0 rfl ?_
    obtain ⟨f3_21, h_22, h⟩ := bd1_e h
    refine a_callVv C0 (wdX1_0 cA q0 q1 q3 q4 q5 q6 q7 q8 q9 f0 f3_21 f4 f6 f7 f8 f9) (As := [.int (2 : Int32), .int x_2]) (rest := []) (ctX0_fail l D cA q3 q4 (2 : Int32) x_2 f3 h_22) (cwV 2 C0.1.2.2.2.2 gX1_leaveInner_X0_fail rfl rfl rfl hdX0_fail ⟨Nat.le_of_ble_eq_true rfl, Nat.le_of_ble_eq_true rfl⟩) [1] [0, 2, 3, 4, 5, 6] [0, 6, 1, 2, 3, 4, 5] rfl rfl rfl rfl (by decide) rfl rfl rfl rfl rfl rfl (Nat.le_of_ble_eq_true rfl) dX1_leaveInner_32 ⟨Nat.zero_le _, Nat.zero_le _⟩ ?_
    obtain rfl := Option.some.inj h
    exact a_vret C0 dX1_leaveInner_35 rfl
set_option maxRecDepth 100000 in
theorem ctX1_leaveInner (l : Launch) (D : va_G) (cA : ClassId) (q0 q1 q3 q4 q5 q6 q7 q8 q9 : Nat) (f0 : Nat → Int32) (f3 : Nat → Int32) (f4 : Nat → Int32) (f6 : Nat → Int32) (f7 : Nat → Int32) (f8 : Nat → Int32) (f9 : Nat → Int32) {res : (Nat → Int32) × (Nat → Int32)} (h : pX1_leaveInner f0 f3 f4 f6 f7 f8 f9 = some res) : Ctv l yX1_leaveInner wsX1_leaveInner (rmX1_leaveInner) D vwCl [(cA, .int)] [.ref q0] (wdX1_0 cA q0 q1 q3 q4 q5 q6 q7 q8 q9 f0 f3 f4 f6 f7 f8 f9) (wdX1_0 cA q0 q1 q3 q4 q5 q6 q7 q8 q9 res.1 res.2 f4 f6 f7 f8 f9) 0 0 :=
  ct_n (S := Unit) (maxL := 3) (cc := cX1_leaveInner) (by decide) rfl (Nat.le_of_ble_eq_true rfl) (fun p e s m below meth c _ C0 => bwX1_leaveInner C0 f0 f3 f4 f6 f7 f8 f9 h)
/-! PackDrawer$AheadReader.leaveOutermost -/
abbrev wdX1_9 (cA : ClassId) (q0 q1 q2 q3 q4 q6 q7 q8 q9 : Nat) (f0 : Nat → Int32) (f1 : Nat → Int32) (f3 : Nat → Int32) : va_W := [(q0, .inr (1, [.ref q1, .ref q3, .ref q4, .ref q6, .ref q7, .ref q8, .ref q9, .int (f0 7), .int (f0 8), .int (f0 9), .int (f0 10), .int (f0 11)])), (q1, .inr (5, [.ref q2, .int (f1 1)])), (q3, .inr (0, [.ref q4, .int (f3 1), .int (f3 2), .int (f3 3), .int (f3 4), .int (f3 5), .int (f3 6), .int (f3 7), .int (f3 8), .int (f3 9), .int (f3 10), .int (f3 11)]))]
theorem hdX5_count : yX5_count.cls = RX5 ∧ yX5_count.cls ≠ "java/lang/invoke/MethodHandle" ∧ yX5_count.cls ≠ "java/lang/invoke/VarHandle" ∧ (parseMethodDescriptor yX5_count.desc).map (fun d => d.parameters.length) = some 0 := by decide +kernel
abbrev rmX1_leaveOutermost : Room := { frames := 1, cells := 0, slots := 0, locals := 22 }
theorem lkX1_leaveOutermost_47 : Cond.fieldLink RX1 47 RX1 (TX1 8).2.1 (TX1 8).2.2.1 ∈ wsX1_leaveOutermost := by decide +kernel
theorem inX1_leaveOutermost_X1 : ∀ w ∈ u_ws RX1 TX1 12, w ∈ wsX1_leaveOutermost := by decide +kernel
theorem lkX1_leaveOutermost_24 : Cond.fieldLink RX1 24 RX1 (TX1 0).2.1 (TX1 0).2.2.1 ∈ wsX1_leaveOutermost := by decide +kernel
theorem lkX1_leaveOutermost_43 : Cond.fieldLink RX1 43 RX1 (TX1 7).2.1 (TX1 7).2.2.1 ∈ wsX1_leaveOutermost := by decide +kernel
theorem lkX1_leaveOutermost_28 : Cond.fieldLink RX1 28 RX1 (TX1 1).2.1 (TX1 1).2.2.1 ∈ wsX1_leaveOutermost := by decide +kernel
def pX1_leaveOutermost (f0 : Nat → Int32) (f1 : Nat → Int32) (f3 : Nat → Int32) : Option ((Nat → Int32) × (Nat → Int32)) := bd1 (pX5_count f1) (fun r_1 => if r_1 ≤ (f0 8) then lt_ (upd f0 7 (0 : Int32)) (fun f0_4 => some (f0_4, f3)) else bd1 (pX0_fail (5 : Int32) (f0 8) f3) (fun f3_5 => lt_ (upd f0 7 (0 : Int32)) (fun f0_7 => some (f0_7, f3_5))))
set_option maxHeartbeats 4000000 in
set_option maxRecDepth 100000 in
theorem bwX1_leaveOutermost {p : Program} {l : Launch} {e : Env} {s : State} {m : MethodId} {args : Array Value} {below : List Frame} {meth : Method} {c : Code} {D : va_G} {A : Nat → Prop} {cA : ClassId} {q0 q1 q2 q3 q4 q6 q7 q8 q9 : Nat} {res : (Nat → Int32) × (Nat → Int32)} (C0 : cx p s m args meth c cX1_leaveOutermost 1 RX1 wsX1_leaveOutermost none D vwCl [(cA, .int)] A) (f0 : Nat → Int32) (f1 : Nat → Int32) (f3 : Nat → Int32) (h : pX1_leaveOutermost f0 f1 f3 = some res) : At_ p l e (rmX1_leaveOutermost) s m args below meth c D vwCl A 1 0 0 (Qv_ below args s D vwCl A (wdX1_9 cA q0 q1 q2 q3 q4 q6 q7 q8 q9 res.1 f1 res.2)) 0 [(0, .ref q0)] [] (wdX1_9 cA q0 q1 q2 q3 q4 q6 q7 q8 q9 f0 f1 f3) := by
  unfold pX1_leaveOutermost at h
  refine a_aload_n C0 dX1_leaveOutermost_0 rfl 0 rfl ?_
  refine a_get C0 inX1_leaveOutermost_X1 0 rfl rfl 8 (by decide) lkX1_leaveOutermost_47 (fun _ h9 => h9) (.int (f0 8)) rfl dX1_leaveOutermost_1 ?_
  refine a_aload_n C0 dX1_leaveOutermost_4 rfl 0 rfl ?_
  refine a_get C0 inX1_leaveOutermost_X1 0 rfl rfl 0 (by decide) lkX1_leaveOutermost_24 (fun _ h9 => h9) (.ref q1) rfl dX1_leaveOutermost_5 ?_
  obtain ⟨r_1, h_2, h⟩ := bd1_e h
  refine a_callVi C0 (wdX1_9 cA q0 q1 q2 q3 q4 q6 q7 q8 q9 f0 f1 f3) (As := []) (rest := [.int (f0 8)]) (ctX5_count l D cA q1 q2 f1 h_2) (cwV 0 C0.1.2.2.2.2 gX1_leaveOutermost_X5_count rfl rfl rfl hdX5_count ⟨Nat.le_of_ble_eq_true rfl, Nat.le_of_ble_eq_true rfl⟩) [1] [0, 2] [0, 2, 1] rfl rfl rfl rfl (by decide) rfl rfl rfl rfl rfl rfl (Nat.le_of_ble_eq_true rfl) dX1_leaveOutermost_8 ⟨Nat.zero_le _, Nat.zero_le _⟩ ?_
  refine a_icmp_ge C0 26 dX1_leaveOutermost_11 (by decide) (fun c_3 => ?_) (fun c_3 => ?_)
  · have h := it_ c_3 h
    refine a_aload_n C0 dX1_leaveOutermost_26 rfl 0 rfl ?_
    refine a_iconst C0 (0 : Int32) dX1_leaveOutermost_27 (by decide) ?_
    obtain ⟨f0_4, ef0_4, h⟩ := lt_e h
    refine a_put C0 inX1_leaveOutermost_X1 tyX1 tyX1_ok nmX1 0 rfl rfl 7 (by decide) lkX1_leaveOutermost_43 (fun _ h9 => h9) rfl (ty := .int) (v := .int (0 : Int32)) (by decide +kernel) rfl rfl (Nat.le_of_ble_eq_true rfl) dX1_leaveOutermost_28 (wdX1_9 cA q0 q1 q2 q3 q4 q6 q7 q8 q9 f0_4 f1 f3) (by subst ef0_4; rfl) ?_
    obtain rfl := Option.some.inj h
    exact a_vret C0 dX1_leaveOutermost_31 rfl
  · have h := ie_ c_3 h
    refine a_aload_n C0 dX1_leaveOutermost_14 rfl 0 rfl ?_
    refine a_get C0 inX1_leaveOutermost_X1 0 rfl rfl 1 (by decide) lkX1_leaveOutermost_28 (fun _ h9 => h9) (.ref q3) rfl dX1_leaveOutermost_15 ?_
    refine a_iconst C0 (5 : Int32) dX1_leaveOutermost_18 (by decide) ?_
    refine a_aload_n C0 dX1_leaveOutermost_19 rfl 0 rfl ?_
    refine a_get C0 inX1_leaveOutermost_X1 0 rfl rfl 8 (by decide) lkX1_leaveOutermost_47 (fun _ h9 => h9) (.int (f0 8)) rfl dX1_leaveOutermost_20 ?_
    obtain ⟨f3_5, h_6, h⟩ := bd1_e h
    refine a_callVv C0 (wdX1_9 cA q0 q1 q2 q3 q4 q6 q7 q8 q9 f0 f1 f3_5) (As := [.int (5 : Int32), .int (f0 8)]) (rest := []) (ctX0_fail l D cA q3 q4 (5 : Int32) (f0 8) f3 h_6) (cwV 2 C0.1.2.2.2.2 gX1_leaveOutermost_X0_fail rfl rfl rfl hdX0_fail ⟨Nat.le_of_ble_eq_true rfl, Nat.le_of_ble_eq_true rfl⟩) [2] [0, 1] [0, 1, 2] rfl rfl rfl rfl (by decide) rfl rfl rfl rfl rfl rfl (Nat.le_of_ble_eq_true rfl) dX1_leaveOutermost_23 ⟨Nat.zero_le _, Nat.zero_le _⟩ ?_
    refine a_aload_n C0 dX1_leaveOutermost_26 rfl 0 rfl ?_
    refine a_iconst C0 (0 : Int32) dX1_leaveOutermost_27 (by decide) ?_
    obtain ⟨f0_7, ef0_7, h⟩ := lt_e h
    refine a_put C0 inX1_leaveOutermost_X1 tyX1 tyX1_ok nmX1 0 rfl rfl 7 (by decide) lkX1_leaveOutermost_43 (fun _ h9 => h9) rfl (ty := .int) (v := .int (0 : Int32)) (by decide +kernel) rfl rfl (Nat.le_of_ble_eq_true rfl) dX1_leaveOutermost_28 (wdX1_9 cA q0 q1 q2 q3 q4 q6 q7 q8 q9 f0_7 f1 f3_5) (by subst ef0_7; rfl) ?_
    obtain rfl := Option.some.inj h
    exact a_vret C0 dX1_leaveOutermost_31 rfl
set_option maxRecDepth 100000 in
theorem ctX1_leaveOutermost (l : Launch) (D : va_G) (cA : ClassId) (q0 q1 q2 q3 q4 q6 q7 q8 q9 : Nat) (f0 : Nat → Int32) (f1 : Nat → Int32) (f3 : Nat → Int32) {res : (Nat → Int32) × (Nat → Int32)} (h : pX1_leaveOutermost f0 f1 f3 = some res) : Ctv l yX1_leaveOutermost wsX1_leaveOutermost (rmX1_leaveOutermost) D vwCl [(cA, .int)] [.ref q0] (wdX1_9 cA q0 q1 q2 q3 q4 q6 q7 q8 q9 f0 f1 f3) (wdX1_9 cA q0 q1 q2 q3 q4 q6 q7 q8 q9 res.1 f1 res.2) 0 0 :=
  ct_n (S := Unit) (maxL := 1) (cc := cX1_leaveOutermost) (by decide) rfl (Nat.le_of_ble_eq_true rfl) (fun p e s m below meth c _ C0 => bwX1_leaveOutermost C0 f0 f1 f3 h)
/-! PackDrawer$AheadReader.readEnd -/
abbrev wdX1_10 (cA : ClassId) (q0 q1 q2 q3 q4 q5 q6 q7 q8 q9 : Nat) (f0 : Nat → Int32) (f1 : Nat → Int32) (f2 : Nat → Int32) (f3 : Nat → Int32) (f4 : Nat → Int32) (f5 : Nat → Int32) (f6 : Nat → Int32) (f7 : Nat → Int32) (f8 : Nat → Int32) (f9 : Nat → Int32) : va_W := [(q0, .inr (1, [.ref q1, .ref q3, .ref q4, .ref q6, .ref q7, .ref q8, .ref q9, .int (f0 7), .int (f0 8), .int (f0 9), .int (f0 10), .int (f0 11)])), (q1, .inr (5, [.ref q2, .int (f1 1)])), (q2, .inl (cA, 160, .inl f2)), (q3, .inr (0, [.ref q4, .int (f3 1), .int (f3 2), .int (f3 3), .int (f3 4), .int (f3 5), .int (f3 6), .int (f3 7), .int (f3 8), .int (f3 9), .int (f3 10), .int (f3 11)])), (q4, .inr (4, [.ref q5, .int (f4 1)])), (q5, .inl (cA, 800, .inl f5)), (q6, .inl (cA, 7, .inl f6)), (q7, .inl (cA, 7, .inl f7)), (q8, .inl (cA, 7, .inl f8)), (q9, .inl (cA, 7, .inl f9))]
theorem hdX4_sumFrom : yX4_sumFrom.cls = RX4 ∧ yX4_sumFrom.cls ≠ "java/lang/invoke/MethodHandle" ∧ yX4_sumFrom.cls ≠ "java/lang/invoke/VarHandle" ∧ (parseMethodDescriptor yX4_sumFrom.desc).map (fun d => d.parameters.length) = some 1 := by decide +kernel
theorem hdX1_leaveInner : yX1_leaveInner.cls = RX1 ∧ yX1_leaveInner.cls ≠ "java/lang/invoke/MethodHandle" ∧ yX1_leaveInner.cls ≠ "java/lang/invoke/VarHandle" ∧ (parseMethodDescriptor yX1_leaveInner.desc).map (fun d => d.parameters.length) = some 0 := by decide +kernel
theorem hdX1_leaveOutermost : yX1_leaveOutermost.cls = RX1 ∧ yX1_leaveOutermost.cls ≠ "java/lang/invoke/MethodHandle" ∧ yX1_leaveOutermost.cls ≠ "java/lang/invoke/VarHandle" ∧ (parseMethodDescriptor yX1_leaveOutermost.desc).map (fun d => d.parameters.length) = some 0 := by decide +kernel
abbrev rmX1_readEnd : Room := { frames := 3, cells := 0, slots := 0, locals := 68 }
theorem lkX1_readEnd_88 : Cond.fieldLink RX1 88 RX1 (TX1 10).2.1 (TX1 10).2.2.1 ∈ wsX1_readEnd := by decide +kernel
theorem inX1_readEnd_X1 : ∀ w ∈ u_ws RX1 TX1 12, w ∈ wsX1_readEnd := by decide +kernel
theorem lkX1_readEnd_78 : Cond.fieldLink RX1 78 RX1 (TX1 9).2.1 (TX1 9).2.2.1 ∈ wsX1_readEnd := by decide +kernel
theorem lkX1_readEnd_24 : Cond.fieldLink RX1 24 RX1 (TX1 0).2.1 (TX1 0).2.2.1 ∈ wsX1_readEnd := by decide +kernel
theorem lkX1_readEnd_47 : Cond.fieldLink RX1 47 RX1 (TX1 8).2.1 (TX1 8).2.2.1 ∈ wsX1_readEnd := by decide +kernel
theorem lkX1_readEnd_38 : Cond.fieldLink RX1 38 RX1 (TX1 2).2.1 (TX1 2).2.2.1 ∈ wsX1_readEnd := by decide +kernel
theorem lkX1_readEnd_9 : Cond.fieldLink RX1 9 RX1 (TX1 3).2.1 (TX1 3).2.2.1 ∈ wsX1_readEnd := by decide +kernel
theorem lkX1_readEnd_43 : Cond.fieldLink RX1 43 RX1 (TX1 7).2.1 (TX1 7).2.2.1 ∈ wsX1_readEnd := by decide +kernel
theorem lkX1_readEnd_28 : Cond.fieldLink RX1 28 RX1 (TX1 1).2.1 (TX1 1).2.2.1 ∈ wsX1_readEnd := by decide +kernel
def pX1_readEnd (N : Nat) (f0 : Nat → Int32) (f1 : Nat → Int32) (f2 : Nat → Int32) (f3 : Nat → Int32) (f4 : Nat → Int32) (f5 : Nat → Int32) (f6 : Nat → Int32) (f7 : Nat → Int32) (f8 : Nat → Int32) (f9 : Nat → Int32) : Option ((Nat → Int32) × (Nat → Int32)) := if (f0 10) ≤ (f0 9) then bd2 (pX1_stand (1 : Int32) f0 f3 f7 f8) (fun r_2 f3_3 => if r_2 = 0 then some (f0, f3_3) else bd1 (pX5_byteAt (f0 8) f1 f2) (fun r_6 => gi_ (f0 7) 7 (bd1 (pX4_sumFrom N (f6 (f0 7).toNatClampNeg) f4 f5) (fun r_9 => if r_6 = r_9 then lt_ (upd f0 8 ((f0 8) + (1 : Int32))) (fun f0_12 => bd1 (pX1_isOutermost f0_12) (fun r_13 => if r_13 = 0 then bd2 (pX1_leaveInner f0_12 f3_3 f4 f6 f7 f8 f9) (fun f0_16 f3_17 => some (f0_16, f3_17)) else bd2 (pX1_leaveOutermost f0_12 f1 f3_3) (fun f0_19 f3_20 => some (f0_19, f3_20)))) else bd1 (pX0_fail (4 : Int32) (f0 8) f3_3) (fun f3_22 => some (f0, f3_22)))))) else bd1 (pX0_fail (7 : Int32) (f0 10) f3) (fun f3_24 => some (f0, f3_24))
set_option maxHeartbeats 4000000 in
set_option maxRecDepth 100000 in
theorem bwX1_readEnd {p : Program} {l : Launch} {e : Env} {s : State} {m : MethodId} {args : Array Value} {below : List Frame} {meth : Method} {c : Code} {D : va_G} {A : Nat → Prop} {cA : ClassId} {q0 q1 q2 q3 q4 q5 q6 q7 q8 q9 : Nat} {res : (Nat → Int32) × (Nat → Int32)} (C0 : cx p s m args meth c cX1_readEnd 1 RX1 wsX1_readEnd none D vwCl [(cA, .int)] A) (N : Nat) (f0 : Nat → Int32) (f1 : Nat → Int32) (f2 : Nat → Int32) (f3 : Nat → Int32) (f4 : Nat → Int32) (f5 : Nat → Int32) (f6 : Nat → Int32) (f7 : Nat → Int32) (f8 : Nat → Int32) (f9 : Nat → Int32) (h : pX1_readEnd N f0 f1 f2 f3 f4 f5 f6 f7 f8 f9 = some res) : At_ p l e (rmX1_readEnd) s m args below meth c D vwCl A 1 0 0 (Qv_ below args s D vwCl A (wdX1_10 cA q0 q1 q2 q3 q4 q5 q6 q7 q8 q9 res.1 f1 f2 res.2 f4 f5 f6 f7 f8 f9)) 0 [(0, .ref q0)] [] (wdX1_10 cA q0 q1 q2 q3 q4 q5 q6 q7 q8 q9 f0 f1 f2 f3 f4 f5 f6 f7 f8 f9) := by
  unfold pX1_readEnd at h
  refine a_aload_n C0 dX1_readEnd_0 rfl 0 rfl ?_
  refine a_get C0 inX1_readEnd_X1 0 rfl rfl 10 (by decide) lkX1_readEnd_88 (fun _ h9 => h9) (.int (f0 10)) rfl dX1_readEnd_1 ?_
  refine a_aload_n C0 dX1_readEnd_4 rfl 0 rfl ?_
  refine a_get C0 inX1_readEnd_X1 0 rfl rfl 9 (by decide) lkX1_readEnd_78 (fun _ h9 => h9) (.int (f0 9)) rfl dX1_readEnd_5 ?_
  refine a_icmp_le C0 25 dX1_readEnd_8 (by decide) (fun c_1 => ?_) (fun c_1 => ?_)
  · have h := it_ c_1 h
    refine a_aload_n C0 dX1_readEnd_25 rfl 0 rfl ?_
    refine a_iconst C0 (1 : Int32) dX1_readEnd_26 (by decide) ?_
    obtain ⟨r_2, f3_3, h_4, h⟩ := bd2_e h
    refine a_callVi C0 (wdX1_10 cA q0 q1 q2 q3 q4 q5 q6 q7 q8 q9 f0 f1 f2 f3_3 f4 f5 f6 f7 f8 f9) (As := [.int (1 : Int32)]) (rest := []) (ctX1_stand l D cA q0 q1 q3 q4 q6 q7 q8 q9 (1 : Int32) f0 f3 f7 f8 h_4) (cwV 1 C0.1.2.2.2.2 gX1_readEnd_X1_stand rfl rfl rfl hdX1_stand ⟨Nat.le_of_ble_eq_true rfl, Nat.le_of_ble_eq_true rfl⟩) [0, 3, 7, 8] [1, 2, 4, 5, 6, 9] [6, 0, 1, 7, 2, 3, 4, 8, 9, 5] rfl rfl rfl rfl (by decide) rfl rfl rfl rfl rfl rfl (Nat.le_of_ble_eq_true rfl) dX1_readEnd_27 ⟨Nat.zero_le _, Nat.zero_le _⟩ ?_
    refine a_if_ne C0 34 dX1_readEnd_30 (by decide) (fun c_5 => ?_) (fun c_5 => ?_)
    · have h := ie_ c_5 h
      refine a_aload_n C0 dX1_readEnd_34 rfl 0 rfl ?_
      refine a_get C0 inX1_readEnd_X1 0 rfl rfl 0 (by decide) lkX1_readEnd_24 (fun _ h9 => h9) (.ref q1) rfl dX1_readEnd_35 ?_
      refine a_aload_n C0 dX1_readEnd_38 rfl 0 rfl ?_
      refine a_get C0 inX1_readEnd_X1 0 rfl rfl 8 (by decide) lkX1_readEnd_47 (fun _ h9 => h9) (.int (f0 8)) rfl dX1_readEnd_39 ?_
      obtain ⟨r_6, h_7, h⟩ := bd1_e h
      refine a_callVi C0 (wdX1_10 cA q0 q1 q2 q3 q4 q5 q6 q7 q8 q9 f0 f1 f2 f3_3 f4 f5 f6 f7 f8 f9) (As := [.int (f0 8)]) (rest := []) (ctX5_byteAt l D cA q1 q2 (f0 8) f1 f2 h_7) (cwV 1 C0.1.2.2.2.2 gX1_readEnd_X5_byteAt rfl rfl rfl hdX5_byteAt ⟨Nat.le_of_ble_eq_true rfl, Nat.le_of_ble_eq_true rfl⟩) [1, 2] [0, 3, 4, 5, 6, 7, 8, 9] [0, 8, 9, 1, 2, 3, 4, 5, 6, 7] rfl rfl rfl rfl (by decide) rfl rfl rfl rfl rfl rfl (Nat.le_of_ble_eq_true rfl) dX1_readEnd_42 ⟨Nat.zero_le _, Nat.zero_le _⟩ ?_
      refine a_aload_n C0 dX1_readEnd_45 rfl 0 rfl ?_
      refine a_get C0 inX1_readEnd_X1 0 rfl rfl 2 (by decide) lkX1_readEnd_38 (fun _ h9 => h9) (.ref q4) rfl dX1_readEnd_46 ?_
      refine a_aload_n C0 dX1_readEnd_49 rfl 0 rfl ?_
      refine a_get C0 inX1_readEnd_X1 0 rfl rfl 3 (by decide) lkX1_readEnd_9 (fun _ h9 => h9) (.ref q6) rfl dX1_readEnd_50 ?_
      refine a_aload_n C0 dX1_readEnd_53 rfl 0 rfl ?_
      refine a_get C0 inX1_readEnd_X1 0 rfl rfl 7 (by decide) lkX1_readEnd_43 (fun _ h9 => h9) (.int (f0 7)) rfl dX1_readEnd_54 ?_
      obtain ⟨g_8, h⟩ := gi_e h
      refine a_iald C0 6 0 rfl rfl g_8 dX1_readEnd_57 ?_
      obtain ⟨r_9, h_10, h⟩ := bd1_e h
      refine a_callVi C0 (wdX1_10 cA q0 q1 q2 q3 q4 q5 q6 q7 q8 q9 f0 f1 f2 f3_3 f4 f5 f6 f7 f8 f9) (As := [.int (f6 (f0 7).toNatClampNeg)]) (rest := [.int r_6]) (ctX4_sumFrom l D cA q4 q5 N (f6 (f0 7).toNatClampNeg) f4 f5 h_10) (cwV 1 C0.1.2.2.2.2 gX1_readEnd_X4_sumFrom rfl rfl rfl hdX4_sumFrom ⟨Nat.le_of_ble_eq_true rfl, Nat.le_of_ble_eq_true rfl⟩) [4, 5] [0, 1, 2, 3, 6, 7, 8, 9] [0, 1, 2, 3, 8, 9, 4, 5, 6, 7] rfl rfl rfl rfl (by decide) rfl rfl rfl rfl rfl rfl (Nat.le_of_ble_eq_true rfl) dX1_readEnd_58 ⟨Nat.zero_le _, Nat.zero_le _⟩ ?_
      refine a_icmp_eq C0 77 dX1_readEnd_61 (by decide) (fun c_11 => ?_) (fun c_11 => ?_)
      · have h := it_ c_11 h
        refine a_aload_n C0 dX1_readEnd_77 rfl 0 rfl ?_
        refine a_dup C0 dX1_readEnd_78 rfl ?_
        refine a_get C0 inX1_readEnd_X1 0 rfl rfl 8 (by decide) lkX1_readEnd_47 (fun _ h9 => h9) (.int (f0 8)) rfl dX1_readEnd_79 ?_
        refine a_iconst C0 (1 : Int32) dX1_readEnd_82 (by decide) ?_
        refine a_iadd C0 dX1_readEnd_83 ?_
        obtain ⟨f0_12, ef0_12, h⟩ := lt_e h
        refine a_put C0 inX1_readEnd_X1 tyX1 tyX1_ok nmX1 0 rfl rfl 8 (by decide) lkX1_readEnd_47 (fun _ h9 => h9) rfl (ty := .int) (v := .int ((f0 8) + (1 : Int32))) (by decide +kernel) rfl rfl (Nat.le_of_ble_eq_true rfl) dX1_readEnd_84 (wdX1_10 cA q0 q1 q2 q3 q4 q5 q6 q7 q8 q9 f0_12 f1 f2 f3_3 f4 f5 f6 f7 f8 f9) (by subst ef0_12; rfl) ?_
        refine a_aload_n C0 dX1_readEnd_87 rfl 0 rfl ?_
        obtain ⟨r_13, h_14, h⟩ := bd1_e h
        refine a_callVi C0 (wdX1_10 cA q0 q1 q2 q3 q4 q5 q6 q7 q8 q9 f0_12 f1 f2 f3_3 f4 f5 f6 f7 f8 f9) (As := []) (rest := []) (ctX1_isOutermost l D cA q0 q1 q3 q4 q6 q7 q8 q9 f0_12 h_14) (cwV 0 C0.1.2.2.2.2 gX1_readEnd_X1_isOutermost rfl rfl rfl hdX1_isOutermost ⟨Nat.le_of_ble_eq_true rfl, Nat.le_of_ble_eq_true rfl⟩) [0] [1, 2, 3, 4, 5, 6, 7, 8, 9] [9, 0, 1, 2, 3, 4, 5, 6, 7, 8] rfl rfl rfl rfl (by decide) rfl rfl rfl rfl rfl rfl (Nat.le_of_ble_eq_true rfl) dX1_readEnd_88 ⟨Nat.zero_le _, Nat.zero_le _⟩ ?_
        refine a_if_eq C0 101 dX1_readEnd_91 (by decide) (fun c_15 => ?_) (fun c_15 => ?_)
        · have h := it_ c_15 h
          refine a_aload_n C0 dX1_readEnd_101 rfl 0 rfl ?_
          obtain ⟨f0_16, f3_17, h_18, h⟩ := bd2_e h
          refine a_callVv C0 (wdX1_10 cA q0 q1 q2 q3 q4 q5 q6 q7 q8 q9 f0_16 f1 f2 f3_17 f4 f5 f6 f7 f8 f9) (As := []) (rest := []) (ctX1_leaveInner l D cA q0 q1 q3 q4 q5 q6 q7 q8 q9 f0_12 f3_3 f4 f6 f7 f8 f9 h_18) (cwV 0 C0.1.2.2.2.2 gX1_readEnd_X1_leaveInner rfl rfl rfl hdX1_leaveInner ⟨Nat.le_of_ble_eq_true rfl, Nat.le_of_ble_eq_true rfl⟩) [0, 3, 4, 6, 7, 8, 9] [1, 2, 5] [3, 0, 1, 4, 5, 2, 6, 7, 8, 9] rfl rfl rfl rfl (by decide) rfl rfl rfl rfl rfl rfl (Nat.le_of_ble_eq_true rfl) dX1_readEnd_102 ⟨Nat.zero_le _, Nat.zero_le _⟩ ?_
          obtain rfl := Option.some.inj h
          exact a_vret C0 dX1_readEnd_105 rfl
        · have h := ie_ c_15 h
          refine a_aload_n C0 dX1_readEnd_94 rfl 0 rfl ?_
          obtain ⟨f0_19, f3_20, h_21, h⟩ := bd2_e h
          refine a_callVv C0 (wdX1_10 cA q0 q1 q2 q3 q4 q5 q6 q7 q8 q9 f0_19 f1 f2 f3_20 f4 f5 f6 f7 f8 f9) (As := []) (rest := []) (ctX1_leaveOutermost l D cA q0 q1 q2 q3 q4 q6 q7 q8 q9 f0_12 f1 f3_3 h_21) (cwV 0 C0.1.2.2.2.2 gX1_readEnd_X1_leaveOutermost rfl rfl rfl hdX1_leaveOutermost ⟨Nat.le_of_ble_eq_true rfl, Nat.le_of_ble_eq_true rfl⟩) [0, 1, 3] [2, 4, 5, 6, 7, 8, 9] [7, 8, 0, 9, 1, 2, 3, 4, 5, 6] rfl rfl rfl rfl (by decide) rfl rfl rfl rfl rfl rfl (Nat.le_of_ble_eq_true rfl) dX1_readEnd_95 ⟨Nat.zero_le _, Nat.zero_le _⟩ ?_
          refine a_goto C0 105 dX1_readEnd_98 (by decide) ?_
          obtain rfl := Option.some.inj h
          exact a_vret C0 dX1_readEnd_105 rfl
      · have h := ie_ c_11 h
        refine a_aload_n C0 dX1_readEnd_64 rfl 0 rfl ?_
        refine a_get C0 inX1_readEnd_X1 0 rfl rfl 1 (by decide) lkX1_readEnd_28 (fun _ h9 => h9) (.ref q3) rfl dX1_readEnd_65 ?_
        refine a_iconst C0 (4 : Int32) dX1_readEnd_68 (by decide) ?_
        refine a_aload_n C0 dX1_readEnd_69 rfl 0 rfl ?_
        refine a_get C0 inX1_readEnd_X1 0 rfl rfl 8 (by decide) lkX1_readEnd_47 (fun _ h9 => h9) (.int (f0 8)) rfl dX1_readEnd_70 ?_
        obtain ⟨f3_22, h_23, h⟩ := bd1_e h
        refine a_callVv C0 (wdX1_10 cA q0 q1 q2 q3 q4 q5 q6 q7 q8 q9 f0 f1 f2 f3_22 f4 f5 f6 f7 f8 f9) (As := [.int (4 : Int32), .int (f0 8)]) (rest := []) (ctX0_fail l D cA q3 q4 (4 : Int32) (f0 8) f3_3 h_23) (cwV 2 C0.1.2.2.2.2 gX1_readEnd_X0_fail rfl rfl rfl hdX0_fail ⟨Nat.le_of_ble_eq_true rfl, Nat.le_of_ble_eq_true rfl⟩) [3] [0, 1, 2, 4, 5, 6, 7, 8, 9] [0, 1, 2, 9, 3, 4, 5, 6, 7, 8] rfl rfl rfl rfl (by decide) rfl rfl rfl rfl rfl rfl (Nat.le_of_ble_eq_true rfl) dX1_readEnd_73 ⟨Nat.zero_le _, Nat.zero_le _⟩ ?_
        obtain rfl := Option.some.inj h
        exact a_vret C0 dX1_readEnd_76 rfl
    · have h := it_ c_5 h
      obtain rfl := Option.some.inj h
      exact a_vret C0 dX1_readEnd_33 rfl
  · have h := ie_ c_1 h
    refine a_aload_n C0 dX1_readEnd_11 rfl 0 rfl ?_
    refine a_get C0 inX1_readEnd_X1 0 rfl rfl 1 (by decide) lkX1_readEnd_28 (fun _ h9 => h9) (.ref q3) rfl dX1_readEnd_12 ?_
    refine a_bipush C0 (7 : Int32) dX1_readEnd_15 (by decide) ?_
    refine a_aload_n C0 dX1_readEnd_17 rfl 0 rfl ?_
    refine a_get C0 inX1_readEnd_X1 0 rfl rfl 10 (by decide) lkX1_readEnd_88 (fun _ h9 => h9) (.int (f0 10)) rfl dX1_readEnd_18 ?_
    obtain ⟨f3_24, h_25, h⟩ := bd1_e h
    refine a_callVv C0 (wdX1_10 cA q0 q1 q2 q3 q4 q5 q6 q7 q8 q9 f0 f1 f2 f3_24 f4 f5 f6 f7 f8 f9) (As := [.int (7 : Int32), .int (f0 10)]) (rest := []) (ctX0_fail l D cA q3 q4 (7 : Int32) (f0 10) f3 h_25) (cwV 2 C0.1.2.2.2.2 gX1_readEnd_X0_fail rfl rfl rfl hdX0_fail ⟨Nat.le_of_ble_eq_true rfl, Nat.le_of_ble_eq_true rfl⟩) [3] [0, 1, 2, 4, 5, 6, 7, 8, 9] [0, 1, 2, 9, 3, 4, 5, 6, 7, 8] rfl rfl rfl rfl (by decide) rfl rfl rfl rfl rfl rfl (Nat.le_of_ble_eq_true rfl) dX1_readEnd_21 ⟨Nat.zero_le _, Nat.zero_le _⟩ ?_
    obtain rfl := Option.some.inj h
    exact a_vret C0 dX1_readEnd_24 rfl
set_option maxRecDepth 100000 in
theorem ctX1_readEnd (l : Launch) (D : va_G) (cA : ClassId) (q0 q1 q2 q3 q4 q5 q6 q7 q8 q9 : Nat) (N : Nat) (f0 : Nat → Int32) (f1 : Nat → Int32) (f2 : Nat → Int32) (f3 : Nat → Int32) (f4 : Nat → Int32) (f5 : Nat → Int32) (f6 : Nat → Int32) (f7 : Nat → Int32) (f8 : Nat → Int32) (f9 : Nat → Int32) {res : (Nat → Int32) × (Nat → Int32)} (h : pX1_readEnd N f0 f1 f2 f3 f4 f5 f6 f7 f8 f9 = some res) : Ctv l yX1_readEnd wsX1_readEnd (rmX1_readEnd) D vwCl [(cA, .int)] [.ref q0] (wdX1_10 cA q0 q1 q2 q3 q4 q5 q6 q7 q8 q9 f0 f1 f2 f3 f4 f5 f6 f7 f8 f9) (wdX1_10 cA q0 q1 q2 q3 q4 q5 q6 q7 q8 q9 res.1 f1 f2 res.2 f4 f5 f6 f7 f8 f9) 0 0 :=
  ct_n (S := Unit) (maxL := 1) (cc := cX1_readEnd) (by decide) rfl (Nat.le_of_ble_eq_true rfl) (fun p e s m below meth c _ C0 => bwX1_readEnd C0 N f0 f1 f2 f3 f4 f5 f6 f7 f8 f9 h)
/-! PackDrawer$AheadReader.readItem -/
theorem hdX1_giveAgain : yX1_giveAgain.cls = RX1 ∧ yX1_giveAgain.cls ≠ "java/lang/invoke/MethodHandle" ∧ yX1_giveAgain.cls ≠ "java/lang/invoke/VarHandle" ∧ (parseMethodDescriptor yX1_giveAgain.desc).map (fun d => d.parameters.length) = some 0 := by decide +kernel
theorem hdX6_sortOf : yX6_sortOf.cls = RX6 ∧ yX6_sortOf.cls ≠ "java/lang/invoke/MethodHandle" ∧ yX6_sortOf.cls ≠ "java/lang/invoke/VarHandle" ∧ (parseMethodDescriptor yX6_sortOf.desc).map (fun d => d.parameters.length) = some 1 := by decide +kernel
theorem hdX1_readEnd : yX1_readEnd.cls = RX1 ∧ yX1_readEnd.cls ≠ "java/lang/invoke/MethodHandle" ∧ yX1_readEnd.cls ≠ "java/lang/invoke/VarHandle" ∧ (parseMethodDescriptor yX1_readEnd.desc).map (fun d => d.parameters.length) = some 0 := by decide +kernel
theorem hdX1_readCopy : yX1_readCopy.cls = RX1 ∧ yX1_readCopy.cls ≠ "java/lang/invoke/MethodHandle" ∧ yX1_readCopy.cls ≠ "java/lang/invoke/VarHandle" ∧ (parseMethodDescriptor yX1_readCopy.desc).map (fun d => d.parameters.length) = some 1 := by decide +kernel
theorem hdX1_readInner : yX1_readInner.cls = RX1 ∧ yX1_readInner.cls ≠ "java/lang/invoke/MethodHandle" ∧ yX1_readInner.cls ≠ "java/lang/invoke/VarHandle" ∧ (parseMethodDescriptor yX1_readInner.desc).map (fun d => d.parameters.length) = some 0 := by decide +kernel
theorem hdX1_readRaw : yX1_readRaw.cls = RX1 ∧ yX1_readRaw.cls ≠ "java/lang/invoke/MethodHandle" ∧ yX1_readRaw.cls ≠ "java/lang/invoke/VarHandle" ∧ (parseMethodDescriptor yX1_readRaw.desc).map (fun d => d.parameters.length) = some 1 := by decide +kernel
theorem hdX1_beginItem : yX1_beginItem.cls = RX1 ∧ yX1_beginItem.cls ≠ "java/lang/invoke/MethodHandle" ∧ yX1_beginItem.cls ≠ "java/lang/invoke/VarHandle" ∧ (parseMethodDescriptor yX1_beginItem.desc).map (fun d => d.parameters.length) = some 0 := by decide +kernel
abbrev rmX1_readItem : Room := { frames := 4, cells := 0, slots := 0, locals := 91 }
theorem lkX1_readItem_28 : Cond.fieldLink RX1 28 RX1 (TX1 1).2.1 (TX1 1).2.2.1 ∈ wsX1_readItem := by decide +kernel
theorem inX1_readItem_X1 : ∀ w ∈ u_ws RX1 TX1 12, w ∈ wsX1_readItem := by decide +kernel
theorem lkX1_readItem_47 : Cond.fieldLink RX1 47 RX1 (TX1 8).2.1 (TX1 8).2.2.1 ∈ wsX1_readItem := by decide +kernel
theorem lkX1_readItem_88 : Cond.fieldLink RX1 88 RX1 (TX1 10).2.1 (TX1 10).2.2.1 ∈ wsX1_readItem := by decide +kernel
theorem lkX1_readItem_38 : Cond.fieldLink RX1 38 RX1 (TX1 2).2.1 (TX1 2).2.2.1 ∈ wsX1_readItem := by decide +kernel
theorem lkX1_readItem_91 : Cond.fieldLink RX1 91 RX1 (TX1 11).2.1 (TX1 11).2.2.1 ∈ wsX1_readItem := by decide +kernel
theorem nmX1_readItem_84 : (RX1, 84, yX6_sortOf, RX6) ∈ nest_M := by decide +kernel
theorem niX1_readItem_X6 : Cond.initialized RX6 ∈ wsX1_readItem := by decide +kernel
theorem nsX1_readItem_X6_sortOf : Cond.static yX6_sortOf ∈ wsX1_readItem := by decide +kernel
theorem lkX1_readItem_78 : Cond.fieldLink RX1 78 RX1 (TX1 9).2.1 (TX1 9).2.2.1 ∈ wsX1_readItem := by decide +kernel
def bfX1_readItem_137 (N : Nat) (f1 : Nat → Int32) (f2 : Nat → Int32) (f0 : Nat → Int32) (f3 : Nat → Int32) (f4 : Nat → Int32) (f5 : Nat → Int32) (f6 : Nat → Int32) (f7 : Nat → Int32) (f8 : Nat → Int32) (f9 : Nat → Int32) : Option ((Nat → Int32) × (Nat → Int32) × (Nat → Int32) × (Nat → Int32) × (Nat → Int32) × (Nat → Int32) × (Nat → Int32) × (Nat → Int32)) := bd3 (pX1_giveAgain N f0 f1 f2 f3 f4 f5) (fun f3_1 f4_2 f5_3 => some (f0, f3_1, f4_2, f5_3, f6, f7, f8, f9))
def bfX1_readItem_41 (N : Nat) (f1 : Nat → Int32) (f2 : Nat → Int32) (v1 : Int32) (f0 : Nat → Int32) (f3 : Nat → Int32) (f4 : Nat → Int32) (f5 : Nat → Int32) (f6 : Nat → Int32) (f7 : Nat → Int32) (f8 : Nat → Int32) (f9 : Nat → Int32) : Option ((Nat → Int32) × (Nat → Int32) × (Nat → Int32) × (Nat → Int32) × (Nat → Int32) × (Nat → Int32) × (Nat → Int32) × (Nat → Int32)) := bd1 (pX0_failed f3) (fun r_5 => if r_5 = 0 then lt_ (upd f0 10 ((f0 8) - (1 : Int32))) (fun f0_8 => bd1 (pX4_top f4) (fun r_9 => lt_ (upd f0_8 11 r_9) (fun f0_11 => bd1 (pX6_sortOf v1) (fun r_12 => if r_12 = (0 : Int32) then bd2 (pX1_readEnd N f0_11 f1 f2 f3 f4 f5 f6 f7 f8 f9) (fun f0_15 f3_16 => bfX1_readItem_137 N f1 f2 f0_15 f3_16 f4 f5 f6 f7 f8 f9) else if r_12 = (2 : Int32) then bd4 (pX1_readCopy N v1 f0_11 f1 f2 f3 f4 f5 f6 f7 f8) (fun f0_19 f3_20 f4_21 f5_22 => bfX1_readItem_137 N f1 f2 f0_19 f3_20 f4_21 f5_22 f6 f7 f8 f9) else if r_12 = (4 : Int32) then bd6 (pX1_readInner f0_11 f1 f2 f3 f4 f6 f7 f8 f9) (fun f0_25 f3_26 f6_27 f7_28 f8_29 f9_30 => some (f0_25, f3_26, f4, f5, f6_27, f7_28, f8_29, f9_30)) else bd4 (pX1_readRaw N v1 f0_11 f1 f2 f3 f4 f5 f7 f8) (fun f0_44 f3_45 f4_46 f5_47 => bfX1_readItem_137 N f1 f2 f0_44 f3_45 f4_46 f5_47 f6 f7 f8 f9))))) else some (f0, f3, f4, f5, f6, f7, f8, f9))
def bFX1_readItem_15 (N : Nat) (f1 : Nat → Int32) (f2 : Nat → Int32) (rc15 : Int32 → Int32 → (Nat → Int32) → (Nat → Int32) → (Nat → Int32) → (Nat → Int32) → (Nat → Int32) → (Nat → Int32) → (Nat → Int32) → (Nat → Int32) → Option ((Nat → Int32) × (Nat → Int32) × (Nat → Int32) × (Nat → Int32) × (Nat → Int32) × (Nat → Int32) × (Nat → Int32) × (Nat → Int32))) (v1 : Int32) (v2 : Int32) (f0 : Nat → Int32) (f3 : Nat → Int32) (f4 : Nat → Int32) (f5 : Nat → Int32) (f6 : Nat → Int32) (f7 : Nat → Int32) (f8 : Nat → Int32) (f9 : Nat → Int32) : Option ((Nat → Int32) × (Nat → Int32) × (Nat → Int32) × (Nat → Int32) × (Nat → Int32) × (Nat → Int32) × (Nat → Int32) × (Nat → Int32)) := if (160 : Int32) ≤ v2 then bfX1_readItem_41 N f1 f2 v1 f0 f3 f4 f5 f6 f7 f8 f9 else bd1 (pX6_sortOf v1) (fun r_50 => if r_50 = (3 : Int32) then bd3 (pX1_beginItem f0 f1 f2 f3 f7 f8) (fun r_53 f0_54 f3_55 => lt_ ((v2 + (1 : Int32))) (fun x_57 => rc15 r_53 x_57 f0_54 f3_55 f4 f5 f6 f7 f8 f9)) else bfX1_readItem_41 N f1 f2 v1 f0 f3 f4 f5 f6 f7 f8 f9)
def bfX1_readItem_15 (N : Nat) (f1 : Nat → Int32) (f2 : Nat → Int32) : Nat → Int32 → Int32 → (Nat → Int32) → (Nat → Int32) → (Nat → Int32) → (Nat → Int32) → (Nat → Int32) → (Nat → Int32) → (Nat → Int32) → (Nat → Int32) → Option ((Nat → Int32) × (Nat → Int32) × (Nat → Int32) × (Nat → Int32) × (Nat → Int32) × (Nat → Int32) × (Nat → Int32) × (Nat → Int32))
  | 0 => fun _ _ _ _ _ _ _ _ _ _ => none
  | n + 1 => bFX1_readItem_15 N f1 f2  (bfX1_readItem_15 N f1 f2  n)
def pX1_readItem (N : Nat) (f0 : Nat → Int32) (f1 : Nat → Int32) (f2 : Nat → Int32) (f3 : Nat → Int32) (f4 : Nat → Int32) (f5 : Nat → Int32) (f6 : Nat → Int32) (f7 : Nat → Int32) (f8 : Nat → Int32) (f9 : Nat → Int32) : Option ((Nat → Int32) × (Nat → Int32) × (Nat → Int32) × (Nat → Int32) × (Nat → Int32) × (Nat → Int32) × (Nat → Int32) × (Nat → Int32)) := lt_ (upd f0 9 (f0 8)) (fun f0_58 => bd3 (pX1_beginItem f0_58 f1 f2 f3 f7 f8) (fun r_59 f0_60 f3_61 => bfX1_readItem_15 N f1 f2 N r_59 (0 : Int32) f0_60 f3_61 f4 f5 f6 f7 f8 f9))
set_option maxHeartbeats 4000000 in
set_option maxRecDepth 100000 in
theorem bwX1_readItem_137 {p : Program} {l : Launch} {e : Env} {s : State} {m : MethodId} {args : Array Value} {below : List Frame} {meth : Method} {c : Code} {D : va_G} {A : Nat → Prop} {cA : ClassId} {q0 q1 q2 q3 q4 q5 q6 q7 q8 q9 : Nat} {res : (Nat → Int32) × (Nat → Int32) × (Nat → Int32) × (Nat → Int32) × (Nat → Int32) × (Nat → Int32) × (Nat → Int32) × (Nat → Int32)} (C0 : cx p s m args meth c cX1_readItem 3 RX1 wsX1_readItem none D vwCl [(cA, .int)] A) (N : Nat) (f1 : Nat → Int32) (f2 : Nat → Int32) (f0 : Nat → Int32) (f3 : Nat → Int32) (f4 : Nat → Int32) (f5 : Nat → Int32) (f6 : Nat → Int32) (f7 : Nat → Int32) (f8 : Nat → Int32) (f9 : Nat → Int32) (h : bfX1_readItem_137 N f1 f2  f0 f3 f4 f5 f6 f7 f8 f9 = some res) : At_ p l e (rmX1_readItem) s m args below meth c D vwCl A 3 0 0 (Qv_ below args s D vwCl A (wdX1_10 cA q0 q1 q2 q3 q4 q5 q6 q7 q8 q9 res.1 f1 f2 res.2.1 res.2.2.1 res.2.2.2.1 res.2.2.2.2.1 res.2.2.2.2.2.1 res.2.2.2.2.2.2.1 res.2.2.2.2.2.2.2)) 137 [(0, .ref q0)] [] (wdX1_10 cA q0 q1 q2 q3 q4 q5 q6 q7 q8 q9 f0 f1 f2 f3 f4 f5 f6 f7 f8 f9) := by
  unfold bfX1_readItem_137 at h
  refine a_aload_n C0 dX1_readItem_137 rfl 0 rfl ?_
  obtain ⟨f3_1, f4_2, f5_3, h_4, h⟩ := bd3_e h
  refine a_callVv C0 (wdX1_10 cA q0 q1 q2 q3 q4 q5 q6 q7 q8 q9 f0 f1 f2 f3_1 f4_2 f5_3 f6 f7 f8 f9) (As := []) (rest := []) (ctX1_giveAgain l D cA q0 q1 q2 q3 q4 q5 q6 q7 q8 q9 N f0 f1 f2 f3 f4 f5 h_4) (cwV 0 C0.1.2.2.2.2 gX1_readItem_X1_giveAgain rfl rfl rfl hdX1_giveAgain ⟨Nat.le_of_ble_eq_true rfl, Nat.le_of_ble_eq_true rfl⟩) [0, 1, 2, 3, 4, 5] [6, 7, 8, 9] [4, 5, 6, 7, 8, 9, 0, 1, 2, 3] rfl rfl rfl rfl (by decide) rfl rfl rfl rfl rfl rfl (Nat.le_of_ble_eq_true rfl) dX1_readItem_138 ⟨Nat.zero_le _, Nat.zero_le _⟩ ?_
  obtain rfl := Option.some.inj h
  exact a_vret C0 dX1_readItem_141 rfl
set_option maxHeartbeats 4000000 in
set_option maxRecDepth 100000 in
theorem bwX1_readItem_41 {p : Program} {l : Launch} {e : Env} {s : State} {m : MethodId} {args : Array Value} {below : List Frame} {meth : Method} {c : Code} {D : va_G} {A : Nat → Prop} {cA : ClassId} {q0 q1 q2 q3 q4 q5 q6 q7 q8 q9 : Nat} {res : (Nat → Int32) × (Nat → Int32) × (Nat → Int32) × (Nat → Int32) × (Nat → Int32) × (Nat → Int32) × (Nat → Int32) × (Nat → Int32)} (C0 : cx p s m args meth c cX1_readItem 3 RX1 wsX1_readItem none D vwCl [(cA, .int)] A) (N : Nat) (f1 : Nat → Int32) (f2 : Nat → Int32) (v1 : Int32) (f0 : Nat → Int32) (f3 : Nat → Int32) (f4 : Nat → Int32) (f5 : Nat → Int32) (f6 : Nat → Int32) (f7 : Nat → Int32) (f8 : Nat → Int32) (f9 : Nat → Int32) (h : bfX1_readItem_41 N f1 f2  v1 f0 f3 f4 f5 f6 f7 f8 f9 = some res) : At_ p l e (rmX1_readItem) s m args below meth c D vwCl A 3 0 0 (Qv_ below args s D vwCl A (wdX1_10 cA q0 q1 q2 q3 q4 q5 q6 q7 q8 q9 res.1 f1 f2 res.2.1 res.2.2.1 res.2.2.2.1 res.2.2.2.2.1 res.2.2.2.2.2.1 res.2.2.2.2.2.2.1 res.2.2.2.2.2.2.2)) 41 [(0, .ref q0), (1, .int v1)] [] (wdX1_10 cA q0 q1 q2 q3 q4 q5 q6 q7 q8 q9 f0 f1 f2 f3 f4 f5 f6 f7 f8 f9) := by
  unfold bfX1_readItem_41 at h
  refine a_aload_n C0 dX1_readItem_41 rfl 0 rfl ?_
  refine a_get C0 inX1_readItem_X1 0 rfl rfl 1 (by decide) lkX1_readItem_28 (fun _ h9 => h9) (.ref q3) rfl dX1_readItem_42 ?_
  obtain ⟨r_5, h_6, h⟩ := bd1_e h
  refine a_callVi C0 (wdX1_10 cA q0 q1 q2 q3 q4 q5 q6 q7 q8 q9 f0 f1 f2 f3 f4 f5 f6 f7 f8 f9) (As := []) (rest := []) (ctX0_failed l D cA q3 q4 f3 h_6) (cwV 0 C0.1.2.2.2.2 gX1_readItem_X0_failed rfl rfl rfl hdX0_failed ⟨Nat.le_of_ble_eq_true rfl, Nat.le_of_ble_eq_true rfl⟩) [3] [0, 1, 2, 4, 5, 6, 7, 8, 9] [0, 1, 2, 9, 3, 4, 5, 6, 7, 8] rfl rfl rfl rfl (by decide) rfl rfl rfl rfl rfl rfl (Nat.le_of_ble_eq_true rfl) dX1_readItem_45 ⟨Nat.zero_le _, Nat.zero_le _⟩ ?_
  refine a_if_eq C0 52 dX1_readItem_48 (by decide) (fun c_7 => ?_) (fun c_7 => ?_)
  · have h := it_ c_7 h
    refine a_aload_n C0 dX1_readItem_52 rfl 0 rfl ?_
    refine a_aload_n C0 dX1_readItem_53 rfl 0 rfl ?_
    refine a_get C0 inX1_readItem_X1 0 rfl rfl 8 (by decide) lkX1_readItem_47 (fun _ h9 => h9) (.int (f0 8)) rfl dX1_readItem_54 ?_
    refine a_iconst C0 (1 : Int32) dX1_readItem_57 (by decide) ?_
    refine a_isub C0 dX1_readItem_58 ?_
    obtain ⟨f0_8, ef0_8, h⟩ := lt_e h
    refine a_put C0 inX1_readItem_X1 tyX1 tyX1_ok nmX1 0 rfl rfl 10 (by decide) lkX1_readItem_88 (fun _ h9 => h9) rfl (ty := .int) (v := .int ((f0 8) - (1 : Int32))) (by decide +kernel) rfl rfl (Nat.le_of_ble_eq_true rfl) dX1_readItem_59 (wdX1_10 cA q0 q1 q2 q3 q4 q5 q6 q7 q8 q9 f0_8 f1 f2 f3 f4 f5 f6 f7 f8 f9) (by subst ef0_8; rfl) ?_
    refine a_aload_n C0 dX1_readItem_62 rfl 0 rfl ?_
    refine a_aload_n C0 dX1_readItem_63 rfl 0 rfl ?_
    refine a_get C0 inX1_readItem_X1 0 rfl rfl 2 (by decide) lkX1_readItem_38 (fun _ h9 => h9) (.ref q4) rfl dX1_readItem_64 ?_
    obtain ⟨r_9, h_10, h⟩ := bd1_e h
    refine a_callVi C0 (wdX1_10 cA q0 q1 q2 q3 q4 q5 q6 q7 q8 q9 f0_8 f1 f2 f3 f4 f5 f6 f7 f8 f9) (As := []) (rest := [.ref q0]) (ctX4_top l D cA q4 q5 f4 h_10) (cwV 0 C0.1.2.2.2.2 gX1_readItem_X4_top rfl rfl rfl hdX4_top ⟨Nat.le_of_ble_eq_true rfl, Nat.le_of_ble_eq_true rfl⟩) [4] [0, 1, 2, 3, 5, 6, 7, 8, 9] [0, 1, 2, 3, 9, 4, 5, 6, 7, 8] rfl rfl rfl rfl (by decide) rfl rfl rfl rfl rfl rfl (Nat.le_of_ble_eq_true rfl) dX1_readItem_67 ⟨Nat.zero_le _, Nat.zero_le _⟩ ?_
    obtain ⟨f0_11, ef0_11, h⟩ := lt_e h
    refine a_put C0 inX1_readItem_X1 tyX1 tyX1_ok nmX1 0 rfl rfl 11 (by decide) lkX1_readItem_91 (fun _ h9 => h9) rfl (ty := .int) (v := .int r_9) (by decide +kernel) rfl rfl (Nat.le_of_ble_eq_true rfl) dX1_readItem_70 (wdX1_10 cA q0 q1 q2 q3 q4 q5 q6 q7 q8 q9 f0_11 f1 f2 f3 f4 f5 f6 f7 f8 f9) (by subst ef0_11; rfl) ?_
    refine a_iload_n C0 dX1_readItem_73 rfl 1 rfl ?_
    obtain ⟨r_12, h_13, h⟩ := bd1_e h
    refine a_callSNi C0 (wdX1_10 cA q0 q1 q2 q3 q4 q5 q6 q7 q8 q9 f0_11 f1 f2 f3 f4 f5 f6 f7 f8 f9) (As := [.int v1]) (rest := []) (ctX6_sortOf l D cA v1 h_13) ⟨va_cnB 1 C0.1.2.2.2.2 gX1_readItem_X6_sortOf_n84 rfl rfl rfl (C0.2.2.2.1.2.2 (RX1, 84, yX6_sortOf, RX6) nmX1_readItem_84) (C0.1.2.2.2.2 (.initialized RX6) niX1_readItem_X6) hdX6_sortOf.2 ⟨Nat.le_of_ble_eq_true rfl, Nat.le_of_ble_eq_true rfl⟩, (C0.1.2.2.2.2 (.static yX6_sortOf) nsX1_readItem_X6_sortOf), trivial⟩ [] [0, 1, 2, 3, 4, 5, 6, 7, 8, 9] [0, 1, 2, 3, 4, 5, 6, 7, 8, 9] rfl rfl rfl rfl (by decide) rfl rfl rfl rfl (Nat.le_of_ble_eq_true rfl) dX1_readItem_74 ⟨Nat.zero_le _, Nat.zero_le _⟩ ?_
    by_cases c_14 : r_12 = (0 : Int32)
    · have h := it_ c_14 h
      refine a_tableIn C0 112 dX1_readItem_77 (by rw [c_14]; decide) (by rw [c_14]; decide) (by rw [c_14]; rfl) (by decide) ?_
      refine a_aload_n C0 dX1_readItem_112 rfl 0 rfl ?_
      obtain ⟨f0_15, f3_16, h_17, h⟩ := bd2_e h
      refine a_callVv C0 (wdX1_10 cA q0 q1 q2 q3 q4 q5 q6 q7 q8 q9 f0_15 f1 f2 f3_16 f4 f5 f6 f7 f8 f9) (As := []) (rest := []) (ctX1_readEnd l D cA q0 q1 q2 q3 q4 q5 q6 q7 q8 q9 N f0_11 f1 f2 f3 f4 f5 f6 f7 f8 f9 h_17) (cwV 0 C0.1.2.2.2.2 gX1_readItem_X1_readEnd rfl rfl rfl hdX1_readEnd ⟨Nat.le_of_ble_eq_true rfl, Nat.le_of_ble_eq_true rfl⟩) [0, 1, 2, 3, 4, 5, 6, 7, 8, 9] [] [0, 1, 2, 3, 4, 5, 6, 7, 8, 9] rfl rfl rfl rfl (by decide) rfl rfl rfl rfl rfl rfl (Nat.le_of_ble_eq_true rfl) dX1_readItem_113 ⟨Nat.zero_le _, Nat.zero_le _⟩ ?_
      refine a_goto C0 137 dX1_readItem_116 (by decide) ?_
      refine a_lv [0] (lv' := [(0, .ref q0)]) rfl ?_
      exact bwX1_readItem_137 C0 N f1 f2 f0_15 f3_16 f4 f5 f6 f7 f8 f9 h
    · have h := ie_ c_14 h
      by_cases c_18 : r_12 = (2 : Int32)
      · have h := it_ c_18 h
        refine a_tableIn C0 124 dX1_readItem_77 (by rw [c_18]; decide) (by rw [c_18]; decide) (by rw [c_18]; rfl) (by decide) ?_
        refine a_aload_n C0 dX1_readItem_124 rfl 0 rfl ?_
        refine a_iload_n C0 dX1_readItem_125 rfl 1 rfl ?_
        obtain ⟨f0_19, f3_20, f4_21, f5_22, h_23, h⟩ := bd4_e h
        refine a_callVv C0 (wdX1_10 cA q0 q1 q2 q3 q4 q5 q6 q7 q8 q9 f0_19 f1 f2 f3_20 f4_21 f5_22 f6 f7 f8 f9) (As := [.int v1]) (rest := []) (ctX1_readCopy l D cA q0 q1 q2 q3 q4 q5 q6 q7 q8 q9 N v1 f0_11 f1 f2 f3 f4 f5 f6 f7 f8 h_23) (cwV 1 C0.1.2.2.2.2 gX1_readItem_X1_readCopy rfl rfl rfl hdX1_readCopy ⟨Nat.le_of_ble_eq_true rfl, Nat.le_of_ble_eq_true rfl⟩) [0, 1, 2, 3, 4, 5, 6, 7, 8] [9] [1, 2, 3, 4, 5, 6, 7, 8, 9, 0] rfl rfl rfl rfl (by decide) rfl rfl rfl rfl rfl rfl (Nat.le_of_ble_eq_true rfl) dX1_readItem_126 ⟨Nat.zero_le _, Nat.zero_le _⟩ ?_
        refine a_goto C0 137 dX1_readItem_129 (by decide) ?_
        refine a_lv [0] (lv' := [(0, .ref q0)]) rfl ?_
        exact bwX1_readItem_137 C0 N f1 f2 f0_19 f3_20 f4_21 f5_22 f6 f7 f8 f9 h
      · have h := ie_ c_18 h
        by_cases c_24 : r_12 = (4 : Int32)
        · have h := it_ c_24 h
          refine a_tableIn C0 119 dX1_readItem_77 (by rw [c_24]; decide) (by rw [c_24]; decide) (by rw [c_24]; rfl) (by decide) ?_
          refine a_aload_n C0 dX1_readItem_119 rfl 0 rfl ?_
          obtain ⟨f0_25, f3_26, f6_27, f7_28, f8_29, f9_30, h_31, h⟩ := bd6_e h
          refine a_callVv C0 (wdX1_10 cA q0 q1 q2 q3 q4 q5 q6 q7 q8 q9 f0_25 f1 f2 f3_26 f4 f5 f6_27 f7_28 f8_29 f9_30) (As := []) (rest := []) (ctX1_readInner l D cA q0 q1 q2 q3 q4 q5 q6 q7 q8 q9 f0_11 f1 f2 f3 f4 f6 f7 f8 f9 h_31) (cwV 0 C0.1.2.2.2.2 gX1_readItem_X1_readInner rfl rfl rfl hdX1_readInner ⟨Nat.le_of_ble_eq_true rfl, Nat.le_of_ble_eq_true rfl⟩) [0, 1, 2, 3, 4, 6, 7, 8, 9] [5] [1, 2, 3, 4, 5, 0, 6, 7, 8, 9] rfl rfl rfl rfl (by decide) rfl rfl rfl rfl rfl rfl (Nat.le_of_ble_eq_true rfl) dX1_readItem_120 ⟨Nat.zero_le _, Nat.zero_le _⟩ ?_
          obtain rfl := Option.some.inj h
          exact a_vret C0 dX1_readItem_123 rfl
        · have h := ie_ c_24 h
          by_cases c_32 : r_12 = (1 : Int32)
          · refine a_tableIn C0 132 dX1_readItem_77 (by rw [c_32]; decide) (by rw [c_32]; decide) (by rw [c_32]; rfl) (by decide) ?_
            refine a_aload_n C0 dX1_readItem_132 rfl 0 rfl ?_
            refine a_iload_n C0 dX1_readItem_133 rfl 1 rfl ?_
            obtain ⟨f0_33, f3_34, f4_35, f5_36, h_37, h⟩ := bd4_e h
            refine a_callVv C0 (wdX1_10 cA q0 q1 q2 q3 q4 q5 q6 q7 q8 q9 f0_33 f1 f2 f3_34 f4_35 f5_36 f6 f7 f8 f9) (As := [.int v1]) (rest := []) (ctX1_readRaw l D cA q0 q1 q2 q3 q4 q5 q6 q7 q8 q9 N v1 f0_11 f1 f2 f3 f4 f5 f7 f8 h_37) (cwV 1 C0.1.2.2.2.2 gX1_readItem_X1_readRaw rfl rfl rfl hdX1_readRaw ⟨Nat.le_of_ble_eq_true rfl, Nat.le_of_ble_eq_true rfl⟩) [0, 1, 2, 3, 4, 5, 7, 8] [6, 9] [2, 3, 4, 5, 6, 7, 0, 8, 9, 1] rfl rfl rfl rfl (by decide) rfl rfl rfl rfl rfl rfl (Nat.le_of_ble_eq_true rfl) dX1_readItem_134 ⟨Nat.zero_le _, Nat.zero_le _⟩ ?_
            refine a_lv [0] (lv' := [(0, .ref q0)]) rfl ?_
            exact bwX1_readItem_137 C0 N f1 f2 f0_33 f3_34 f4_35 f5_36 f6 f7 f8 f9 h
          by_cases c_38 : r_12 = (3 : Int32)
          · refine a_tableIn C0 132 dX1_readItem_77 (by rw [c_38]; decide) (by rw [c_38]; decide) (by rw [c_38]; rfl) (by decide) ?_
            refine a_aload_n C0 dX1_readItem_132 rfl 0 rfl ?_
            refine a_iload_n C0 dX1_readItem_133 rfl 1 rfl ?_
            obtain ⟨f0_39, f3_40, f4_41, f5_42, h_43, h⟩ := bd4_e h
            refine a_callVv C0 (wdX1_10 cA q0 q1 q2 q3 q4 q5 q6 q7 q8 q9 f0_39 f1 f2 f3_40 f4_41 f5_42 f6 f7 f8 f9) (As := [.int v1]) (rest := []) (ctX1_readRaw l D cA q0 q1 q2 q3 q4 q5 q6 q7 q8 q9 N v1 f0_11 f1 f2 f3 f4 f5 f7 f8 h_43) (cwV 1 C0.1.2.2.2.2 gX1_readItem_X1_readRaw rfl rfl rfl hdX1_readRaw ⟨Nat.le_of_ble_eq_true rfl, Nat.le_of_ble_eq_true rfl⟩) [0, 1, 2, 3, 4, 5, 7, 8] [6, 9] [2, 3, 4, 5, 6, 7, 0, 8, 9, 1] rfl rfl rfl rfl (by decide) rfl rfl rfl rfl rfl rfl (Nat.le_of_ble_eq_true rfl) dX1_readItem_134 ⟨Nat.zero_le _, Nat.zero_le _⟩ ?_
            refine a_lv [0] (lv' := [(0, .ref q0)]) rfl ?_
            exact bwX1_readItem_137 C0 N f1 f2 f0_39 f3_40 f4_41 f5_42 f6 f7 f8 f9 h
          have hsw : r_12.toInt < 0 ∨ 4 < r_12.toInt := by
            have := sw_ne c_14 (k := 0) (by decide)
            have := sw_ne c_32 (k := 1) (by decide)
            have := sw_ne c_18 (k := 2) (by decide)
            have := sw_ne c_38 (k := 3) (by decide)
            have := sw_ne c_24 (k := 4) (by decide)
            omega
          refine a_tableOut C0 132 dX1_readItem_77 hsw (by decide) ?_
          refine a_aload_n C0 dX1_readItem_132 rfl 0 rfl ?_
          refine a_iload_n C0 dX1_readItem_133 rfl 1 rfl ?_
          obtain ⟨f0_44, f3_45, f4_46, f5_47, h_48, h⟩ := bd4_e h
          refine a_callVv C0 (wdX1_10 cA q0 q1 q2 q3 q4 q5 q6 q7 q8 q9 f0_44 f1 f2 f3_45 f4_46 f5_47 f6 f7 f8 f9) (As := [.int v1]) (rest := []) (ctX1_readRaw l D cA q0 q1 q2 q3 q4 q5 q6 q7 q8 q9 N v1 f0_11 f1 f2 f3 f4 f5 f7 f8 h_48) (cwV 1 C0.1.2.2.2.2 gX1_readItem_X1_readRaw rfl rfl rfl hdX1_readRaw ⟨Nat.le_of_ble_eq_true rfl, Nat.le_of_ble_eq_true rfl⟩) [0, 1, 2, 3, 4, 5, 7, 8] [6, 9] [2, 3, 4, 5, 6, 7, 0, 8, 9, 1] rfl rfl rfl rfl (by decide) rfl rfl rfl rfl rfl rfl (Nat.le_of_ble_eq_true rfl) dX1_readItem_134 ⟨Nat.zero_le _, Nat.zero_le _⟩ ?_
          refine a_lv [0] (lv' := [(0, .ref q0)]) rfl ?_
          exact bwX1_readItem_137 C0 N f1 f2 f0_44 f3_45 f4_46 f5_47 f6 f7 f8 f9 h
  · have h := ie_ c_7 h
    obtain rfl := Option.some.inj h
    exact a_vret C0 dX1_readItem_51 rfl
set_option maxHeartbeats 4000000 in
set_option maxRecDepth 100000 in
theorem bwX1_readItem_15 {p : Program} {l : Launch} {e : Env} {s : State} {m : MethodId} {args : Array Value} {below : List Frame} {meth : Method} {c : Code} {D : va_G} {A : Nat → Prop} {cA : ClassId} {q0 q1 q2 q3 q4 q5 q6 q7 q8 q9 : Nat} {res : (Nat → Int32) × (Nat → Int32) × (Nat → Int32) × (Nat → Int32) × (Nat → Int32) × (Nat → Int32) × (Nat → Int32) × (Nat → Int32)} (C0 : cx p s m args meth c cX1_readItem 3 RX1 wsX1_readItem none D vwCl [(cA, .int)] A) (N : Nat) (f1 : Nat → Int32) (f2 : Nat → Int32) : ∀ (n : Nat) (v1 : Int32) (v2 : Int32) (f0 : Nat → Int32) (f3 : Nat → Int32) (f4 : Nat → Int32) (f5 : Nat → Int32) (f6 : Nat → Int32) (f7 : Nat → Int32) (f8 : Nat → Int32) (f9 : Nat → Int32), bfX1_readItem_15 N f1 f2  n v1 v2 f0 f3 f4 f5 f6 f7 f8 f9 = some res → At_ p l e (rmX1_readItem) s m args below meth c D vwCl A 3 0 0 (Qv_ below args s D vwCl A (wdX1_10 cA q0 q1 q2 q3 q4 q5 q6 q7 q8 q9 res.1 f1 f2 res.2.1 res.2.2.1 res.2.2.2.1 res.2.2.2.2.1 res.2.2.2.2.2.1 res.2.2.2.2.2.2.1 res.2.2.2.2.2.2.2)) 15 [(0, .ref q0), (1, .int v1), (2, .int v2)] [] (wdX1_10 cA q0 q1 q2 q3 q4 q5 q6 q7 q8 q9 f0 f1 f2 f3 f4 f5 f6 f7 f8 f9) := by
  intro n
  induction n with
  | zero => intro v1 v2 f0 f3 f4 f5 f6 f7 f8 f9 h; cases h
  | succ n hrc15 =>
    intro v1 v2 f0 f3 f4 f5 f6 f7 f8 f9 h
    replace h : bFX1_readItem_15 N f1 f2  (bfX1_readItem_15 N f1 f2  n) v1 v2 f0 f3 f4 f5 f6 f7 f8 f9 = some res := h
    generalize bfX1_readItem_15 N f1 f2  n = rc15 at h hrc15
    unfold bFX1_readItem_15 at h
    refine a_iload_n C0 dX1_readItem_15 rfl 2 rfl ?_
    refine a_sipush C0 (160 : Int32) dX1_readItem_16 (by decide) ?_
    refine a_icmp_ge C0 41 dX1_readItem_19 (by decide) (fun c_49 => ?_) (fun c_49 => ?_)
    · have h := it_ c_49 h
      refine a_lv [0, 1] (lv' := [(0, .ref q0), (1, .int v1)]) rfl ?_
      exact bwX1_readItem_41 C0 N f1 f2 v1 f0 f3 f4 f5 f6 f7 f8 f9 h
    · have h := ie_ c_49 h
      refine a_iload_n C0 dX1_readItem_22 rfl 1 rfl ?_
      obtain ⟨r_50, h_51, h⟩ := bd1_e h
      refine a_callSNi C0 (wdX1_10 cA q0 q1 q2 q3 q4 q5 q6 q7 q8 q9 f0 f1 f2 f3 f4 f5 f6 f7 f8 f9) (As := [.int v1]) (rest := []) (ctX6_sortOf l D cA v1 h_51) ⟨va_cnB 1 C0.1.2.2.2.2 gX1_readItem_X6_sortOf_n84 rfl rfl rfl (C0.2.2.2.1.2.2 (RX1, 84, yX6_sortOf, RX6) nmX1_readItem_84) (C0.1.2.2.2.2 (.initialized RX6) niX1_readItem_X6) hdX6_sortOf.2 ⟨Nat.le_of_ble_eq_true rfl, Nat.le_of_ble_eq_true rfl⟩, (C0.1.2.2.2.2 (.static yX6_sortOf) nsX1_readItem_X6_sortOf), trivial⟩ [] [0, 1, 2, 3, 4, 5, 6, 7, 8, 9] [0, 1, 2, 3, 4, 5, 6, 7, 8, 9] rfl rfl rfl rfl (by decide) rfl rfl rfl rfl (Nat.le_of_ble_eq_true rfl) dX1_readItem_23 ⟨Nat.zero_le _, Nat.zero_le _⟩ ?_
      refine a_iconst C0 (3 : Int32) dX1_readItem_26 (by decide) ?_
      refine a_icmp_ne C0 41 dX1_readItem_27 (by decide) (fun c_52 => ?_) (fun c_52 => ?_)
      · have h := ie_ c_52 h
        refine a_lv [0, 1] (lv' := [(0, .ref q0), (1, .int v1)]) rfl ?_
        exact bwX1_readItem_41 C0 N f1 f2 v1 f0 f3 f4 f5 f6 f7 f8 f9 h
      · have h := it_ c_52 h
        refine a_aload_n C0 dX1_readItem_30 rfl 0 rfl ?_
        obtain ⟨r_53, f0_54, f3_55, h_56, h⟩ := bd3_e h
        refine a_callVi C0 (wdX1_10 cA q0 q1 q2 q3 q4 q5 q6 q7 q8 q9 f0_54 f1 f2 f3_55 f4 f5 f6 f7 f8 f9) (As := []) (rest := []) (ctX1_beginItem l D cA q0 q1 q2 q3 q4 q6 q7 q8 q9 f0 f1 f2 f3 f7 f8 h_56) (cwV 0 C0.1.2.2.2.2 gX1_readItem_X1_beginItem rfl rfl rfl hdX1_beginItem ⟨Nat.le_of_ble_eq_true rfl, Nat.le_of_ble_eq_true rfl⟩) [0, 1, 2, 3, 7, 8] [4, 5, 6, 9] [4, 5, 6, 7, 0, 1, 2, 8, 9, 3] rfl rfl rfl rfl (by decide) rfl rfl rfl rfl rfl rfl (Nat.le_of_ble_eq_true rfl) dX1_readItem_31 ⟨Nat.zero_le _, Nat.zero_le _⟩ ?_
        refine a_istore_n C0 [(1, .int r_53), (0, .ref q0), (2, .int v2)] dX1_readItem_34 rfl (by decide) rfl ?_
        obtain ⟨x_57, ex_57, h⟩ := lt_e h
        refine a_iinc C0 x_57 [(2, .int x_57), (1, .int r_53), (0, .ref q0)] dX1_readItem_35 2 rfl (by subst ex_57; rfl) (by decide) rfl ?_
        refine a_goto C0 15 dX1_readItem_38 (by decide) ?_
        refine a_lv [2, 1, 0] (lv' := [(0, .ref q0), (1, .int r_53), (2, .int x_57)]) rfl ?_
        exact hrc15 r_53 x_57 f0_54 f3_55 f4 f5 f6 f7 f8 f9 h
set_option maxHeartbeats 4000000 in
set_option maxRecDepth 100000 in
theorem bwX1_readItem {p : Program} {l : Launch} {e : Env} {s : State} {m : MethodId} {args : Array Value} {below : List Frame} {meth : Method} {c : Code} {D : va_G} {A : Nat → Prop} {cA : ClassId} {q0 q1 q2 q3 q4 q5 q6 q7 q8 q9 : Nat} {res : (Nat → Int32) × (Nat → Int32) × (Nat → Int32) × (Nat → Int32) × (Nat → Int32) × (Nat → Int32) × (Nat → Int32) × (Nat → Int32)} (C0 : cx p s m args meth c cX1_readItem 3 RX1 wsX1_readItem none D vwCl [(cA, .int)] A) (N : Nat) (f0 : Nat → Int32) (f1 : Nat → Int32) (f2 : Nat → Int32) (f3 : Nat → Int32) (f4 : Nat → Int32) (f5 : Nat → Int32) (f6 : Nat → Int32) (f7 : Nat → Int32) (f8 : Nat → Int32) (f9 : Nat → Int32) (h : pX1_readItem N f0 f1 f2 f3 f4 f5 f6 f7 f8 f9 = some res) : At_ p l e (rmX1_readItem) s m args below meth c D vwCl A 3 0 0 (Qv_ below args s D vwCl A (wdX1_10 cA q0 q1 q2 q3 q4 q5 q6 q7 q8 q9 res.1 f1 f2 res.2.1 res.2.2.1 res.2.2.2.1 res.2.2.2.2.1 res.2.2.2.2.2.1 res.2.2.2.2.2.2.1 res.2.2.2.2.2.2.2)) 0 [(0, .ref q0)] [] (wdX1_10 cA q0 q1 q2 q3 q4 q5 q6 q7 q8 q9 f0 f1 f2 f3 f4 f5 f6 f7 f8 f9) := by
  unfold pX1_readItem at h
  refine a_aload_n C0 dX1_readItem_0 rfl 0 rfl ?_
  refine a_aload_n C0 dX1_readItem_1 rfl 0 rfl ?_
  refine a_get C0 inX1_readItem_X1 0 rfl rfl 8 (by decide) lkX1_readItem_47 (fun _ h9 => h9) (.int (f0 8)) rfl dX1_readItem_2 ?_
  obtain ⟨f0_58, ef0_58, h⟩ := lt_e h
  refine a_put C0 inX1_readItem_X1 tyX1 tyX1_ok nmX1 0 rfl rfl 9 (by decide) lkX1_readItem_78 (fun _ h9 => h9) rfl (ty := .int) (v := .int (f0 8)) (by decide +kernel) rfl rfl (Nat.le_of_ble_eq_true rfl) dX1_readItem_5 (wdX1_10 cA q0 q1 q2 q3 q4 q5 q6 q7 q8 q9 f0_58 f1 f2 f3 f4 f5 f6 f7 f8 f9) (by subst ef0_58; rfl) ?_
  refine a_aload_n C0 dX1_readItem_8 rfl 0 rfl ?_
  obtain ⟨r_59, f0_60, f3_61, h_62, h⟩ := bd3_e h
  refine a_callVi C0 (wdX1_10 cA q0 q1 q2 q3 q4 q5 q6 q7 q8 q9 f0_60 f1 f2 f3_61 f4 f5 f6 f7 f8 f9) (As := []) (rest := []) (ctX1_beginItem l D cA q0 q1 q2 q3 q4 q6 q7 q8 q9 f0_58 f1 f2 f3 f7 f8 h_62) (cwV 0 C0.1.2.2.2.2 gX1_readItem_X1_beginItem rfl rfl rfl hdX1_beginItem ⟨Nat.le_of_ble_eq_true rfl, Nat.le_of_ble_eq_true rfl⟩) [0, 1, 2, 3, 7, 8] [4, 5, 6, 9] [4, 5, 6, 7, 0, 1, 2, 8, 9, 3] rfl rfl rfl rfl (by decide) rfl rfl rfl rfl rfl rfl (Nat.le_of_ble_eq_true rfl) dX1_readItem_9 ⟨Nat.zero_le _, Nat.zero_le _⟩ ?_
  refine a_istore_n C0 [(1, .int r_59), (0, .ref q0)] dX1_readItem_12 rfl (by decide) rfl ?_
  refine a_iconst C0 (0 : Int32) dX1_readItem_13 (by decide) ?_
  refine a_istore_n C0 [(2, .int (0 : Int32)), (1, .int r_59), (0, .ref q0)] dX1_readItem_14 rfl (by decide) rfl ?_
  refine a_lv [2, 1, 0] (lv' := [(0, .ref q0), (1, .int r_59), (2, .int (0 : Int32))]) rfl ?_
  exact bwX1_readItem_15 C0 N f1 f2 N r_59 (0 : Int32) f0_60 f3_61 f4 f5 f6 f7 f8 f9 h
set_option maxRecDepth 100000 in
theorem ctX1_readItem (l : Launch) (D : va_G) (cA : ClassId) (q0 q1 q2 q3 q4 q5 q6 q7 q8 q9 : Nat) (N : Nat) (f0 : Nat → Int32) (f1 : Nat → Int32) (f2 : Nat → Int32) (f3 : Nat → Int32) (f4 : Nat → Int32) (f5 : Nat → Int32) (f6 : Nat → Int32) (f7 : Nat → Int32) (f8 : Nat → Int32) (f9 : Nat → Int32) {res : (Nat → Int32) × (Nat → Int32) × (Nat → Int32) × (Nat → Int32) × (Nat → Int32) × (Nat → Int32) × (Nat → Int32) × (Nat → Int32)} (h : pX1_readItem N f0 f1 f2 f3 f4 f5 f6 f7 f8 f9 = some res) : Ctv l yX1_readItem wsX1_readItem (rmX1_readItem) D vwCl [(cA, .int)] [.ref q0] (wdX1_10 cA q0 q1 q2 q3 q4 q5 q6 q7 q8 q9 f0 f1 f2 f3 f4 f5 f6 f7 f8 f9) (wdX1_10 cA q0 q1 q2 q3 q4 q5 q6 q7 q8 q9 res.1 f1 f2 res.2.1 res.2.2.1 res.2.2.2.1 res.2.2.2.2.1 res.2.2.2.2.2.1 res.2.2.2.2.2.2.1 res.2.2.2.2.2.2.2) 0 0 :=
  ct_n (S := Unit) (maxL := 3) (cc := cX1_readItem) (by decide) rfl (Nat.le_of_ble_eq_true rfl) (fun p e s m below meth c _ C0 => bwX1_readItem C0 N f0 f1 f2 f3 f4 f5 f6 f7 f8 f9 h)
/-! PackDrawer$AheadReader.read -/
theorem hdX1_readItem : yX1_readItem.cls = RX1 ∧ yX1_readItem.cls ≠ "java/lang/invoke/MethodHandle" ∧ yX1_readItem.cls ≠ "java/lang/invoke/VarHandle" ∧ (parseMethodDescriptor yX1_readItem.desc).map (fun d => d.parameters.length) = some 0 := by decide +kernel
theorem hdX0_start : yX0_start.cls = RX0 ∧ yX0_start.cls ≠ "java/lang/invoke/MethodHandle" ∧ yX0_start.cls ≠ "java/lang/invoke/VarHandle" ∧ (parseMethodDescriptor yX0_start.desc).map (fun d => d.parameters.length) = some 3 := by decide +kernel
abbrev rmX1_read : Room := { frames := 5, cells := 0, slots := 0, locals := 113 }
theorem lkX1_read_28 : Cond.fieldLink RX1 28 RX1 (TX1 1).2.1 (TX1 1).2.2.1 ∈ wsX1_read := by decide +kernel
theorem inX1_read_X1 : ∀ w ∈ u_ws RX1 TX1 12, w ∈ wsX1_read := by decide +kernel
theorem nfX1_read_66 : (RX1, 66, RX0, (TX0 4).2.1, (TX0 4).2.2.1, RX6) ∈ nest_F := by decide +kernel
theorem inX1_read_X0 : ∀ w ∈ u_ws RX0 TX0 12, w ∈ wsX1_read := by decide +kernel
theorem lkX1_read_43 : Cond.fieldLink RX1 43 RX1 (TX1 7).2.1 (TX1 7).2.2.1 ∈ wsX1_read := by decide +kernel
theorem lkX1_read_47 : Cond.fieldLink RX1 47 RX1 (TX1 8).2.1 (TX1 8).2.2.1 ∈ wsX1_read := by decide +kernel
theorem lkX1_read_24 : Cond.fieldLink RX1 24 RX1 (TX1 0).2.1 (TX1 0).2.2.1 ∈ wsX1_read := by decide +kernel
def bFX1_read_42 (N : Nat) (a1 : Int32) (a2 : Int32) (a3 : Int32) (f1 : Nat → Int32) (f2 : Nat → Int32) (rc42 : Int32 → (Nat → Int32) → (Nat → Int32) → (Nat → Int32) → (Nat → Int32) → (Nat → Int32) → (Nat → Int32) → (Nat → Int32) → (Nat → Int32) → Option (Int32 × (Nat → Int32) × (Nat → Int32) × (Nat → Int32) × (Nat → Int32) × (Nat → Int32) × (Nat → Int32) × (Nat → Int32) × (Nat → Int32))) (v4 : Int32) (f0 : Nat → Int32) (f3 : Nat → Int32) (f4 : Nat → Int32) (f5 : Nat → Int32) (f6 : Nat → Int32) (f7 : Nat → Int32) (f8 : Nat → Int32) (f9 : Nat → Int32) : Option (Int32 × (Nat → Int32) × (Nat → Int32) × (Nat → Int32) × (Nat → Int32) × (Nat → Int32) × (Nat → Int32) × (Nat → Int32) × (Nat → Int32)) := if (160 : Int32) < v4 then some ((f3 4), f0, f3, f4, f5, f6, f7, f8, f9) else if (f0 7) ≤ 0 then some ((f3 4), f0, f3, f4, f5, f6, f7, f8, f9) else bd1 (pX0_failed f3) (fun r_3 => if r_3 = 0 then bd8 (pX1_readItem N f0 f1 f2 f3 f4 f5 f6 f7 f8 f9) (fun f0_6 f3_7 f4_8 f5_9 f6_10 f7_11 f8_12 f9_13 => lt_ ((v4 + (1 : Int32))) (fun x_15 => rc42 x_15 f0_6 f3_7 f4_8 f5_9 f6_10 f7_11 f8_12 f9_13)) else some ((f3 4), f0, f3, f4, f5, f6, f7, f8, f9))
def bfX1_read_42 (N : Nat) (a1 : Int32) (a2 : Int32) (a3 : Int32) (f1 : Nat → Int32) (f2 : Nat → Int32) : Nat → Int32 → (Nat → Int32) → (Nat → Int32) → (Nat → Int32) → (Nat → Int32) → (Nat → Int32) → (Nat → Int32) → (Nat → Int32) → (Nat → Int32) → Option (Int32 × (Nat → Int32) × (Nat → Int32) × (Nat → Int32) × (Nat → Int32) × (Nat → Int32) × (Nat → Int32) × (Nat → Int32) × (Nat → Int32))
  | 0 => fun _ _ _ _ _ _ _ _ _ => none
  | n + 1 => bFX1_read_42 N a1 a2 a3 f1 f2  (bfX1_read_42 N a1 a2 a3 f1 f2  n)
def pX1_read (N : Nat) (a1 : Int32) (a2 : Int32) (a3 : Int32) (f0 : Nat → Int32) (f1 : Nat → Int32) (f2 : Nat → Int32) (f3 : Nat → Int32) (f4 : Nat → Int32) (f5 : Nat → Int32) (f6 : Nat → Int32) (f7 : Nat → Int32) (f8 : Nat → Int32) (f9 : Nat → Int32) : Option (Int32 × (Nat → Int32) × (Nat → Int32) × (Nat → Int32) × (Nat → Int32) × (Nat → Int32) × (Nat → Int32) × (Nat → Int32) × (Nat → Int32)) := bd2 (pX0_start a1 a2 a3 f3 f4) (fun f3_16 f4_17 => lt_ (upd f0 7 (0 : Int32)) (fun f0_19 => lt_ (upd f0_19 8 (0 : Int32)) (fun f0_20 => bd1 (pX5_count f1) (fun r_21 => bd1 (pX5_count f1) (fun r_23 => bd6 (pX1_enterPack r_21 r_23 (0 : Int32) f0_20 f3_16 f4_17 f6 f7 f8 f9) (fun f0_25 f3_26 f6_27 f7_28 f8_29 f9_30 => bfX1_read_42 N a1 a2 a3 f1 f2 N (0 : Int32) f0_25 f3_26 f4_17 f5 f6_27 f7_28 f8_29 f9_30))))))
set_option maxHeartbeats 4000000 in
set_option maxRecDepth 100000 in
theorem bwX1_read_42 {p : Program} {l : Launch} {e : Env} {s : State} {m : MethodId} {args : Array Value} {below : List Frame} {meth : Method} {c : Code} {D : va_G} {A : Nat → Prop} {cA : ClassId} {q0 q1 q2 q3 q4 q5 q6 q7 q8 q9 : Nat} {res : Int32 × (Nat → Int32) × (Nat → Int32) × (Nat → Int32) × (Nat → Int32) × (Nat → Int32) × (Nat → Int32) × (Nat → Int32) × (Nat → Int32)} (C0 : cx p s m args meth c cX1_read 5 RX1 wsX1_read (some .int) D vwCl [(cA, .int)] A) (N : Nat) (a1 : Int32) (a2 : Int32) (a3 : Int32) (f1 : Nat → Int32) (f2 : Nat → Int32) : ∀ (n : Nat) (v4 : Int32) (f0 : Nat → Int32) (f3 : Nat → Int32) (f4 : Nat → Int32) (f5 : Nat → Int32) (f6 : Nat → Int32) (f7 : Nat → Int32) (f8 : Nat → Int32) (f9 : Nat → Int32), bfX1_read_42 N a1 a2 a3 f1 f2  n v4 f0 f3 f4 f5 f6 f7 f8 f9 = some res → At_ p l e (rmX1_read) s m args below meth c D vwCl A 5 0 0 (Qi_ below args s D vwCl A (wdX1_10 cA q0 q1 q2 q3 q4 q5 q6 q7 q8 q9 res.2.1 f1 f2 res.2.2.1 res.2.2.2.1 res.2.2.2.2.1 res.2.2.2.2.2.1 res.2.2.2.2.2.2.1 res.2.2.2.2.2.2.2.1 res.2.2.2.2.2.2.2.2) res.1) 42 [(0, .ref q0), (1, .int a1), (2, .int a2), (3, .int a3), (4, .int v4)] [] (wdX1_10 cA q0 q1 q2 q3 q4 q5 q6 q7 q8 q9 f0 f1 f2 f3 f4 f5 f6 f7 f8 f9) := by
  intro n
  induction n with
  | zero => intro v4 f0 f3 f4 f5 f6 f7 f8 f9 h; cases h
  | succ n hrc42 =>
    intro v4 f0 f3 f4 f5 f6 f7 f8 f9 h
    replace h : bFX1_read_42 N a1 a2 a3 f1 f2  (bfX1_read_42 N a1 a2 a3 f1 f2  n) v4 f0 f3 f4 f5 f6 f7 f8 f9 = some res := h
    generalize bfX1_read_42 N a1 a2 a3 f1 f2  n = rc42 at h hrc42
    unfold bFX1_read_42 at h
    refine a_iload C0 dX1_read_42 4 rfl ?_
    refine a_sipush C0 (160 : Int32) dX1_read_44 (by decide) ?_
    refine a_icmp_gt C0 77 dX1_read_47 (by decide) (fun c_1 => ?_) (fun c_1 => ?_)
    · have h := it_ c_1 h
      refine a_aload_n C0 dX1_read_77 rfl 0 rfl ?_
      refine a_get C0 inX1_read_X1 0 rfl rfl 1 (by decide) lkX1_read_28 (fun _ h9 => h9) (.ref q3) rfl dX1_read_78 ?_
      refine a_getN C0 inX1_read_X0 3 rfl rfl 4 (by decide) nfX1_read_66 (fun _ h9 => h9) (.int (f3 4)) rfl dX1_read_81 ?_
      obtain rfl := Option.some.inj h
      exact a_iret C0 dX1_read_84 rfl rfl
    · have h := ie_ c_1 h
      refine a_aload_n C0 dX1_read_50 rfl 0 rfl ?_
      refine a_get C0 inX1_read_X1 0 rfl rfl 7 (by decide) lkX1_read_43 (fun _ h9 => h9) (.int (f0 7)) rfl dX1_read_51 ?_
      refine a_if_le C0 77 dX1_read_54 (by decide) (fun c_2 => ?_) (fun c_2 => ?_)
      · have h := it_ c_2 h
        refine a_aload_n C0 dX1_read_77 rfl 0 rfl ?_
        refine a_get C0 inX1_read_X1 0 rfl rfl 1 (by decide) lkX1_read_28 (fun _ h9 => h9) (.ref q3) rfl dX1_read_78 ?_
        refine a_getN C0 inX1_read_X0 3 rfl rfl 4 (by decide) nfX1_read_66 (fun _ h9 => h9) (.int (f3 4)) rfl dX1_read_81 ?_
        obtain rfl := Option.some.inj h
        exact a_iret C0 dX1_read_84 rfl rfl
      · have h := ie_ c_2 h
        refine a_aload_n C0 dX1_read_57 rfl 0 rfl ?_
        refine a_get C0 inX1_read_X1 0 rfl rfl 1 (by decide) lkX1_read_28 (fun _ h9 => h9) (.ref q3) rfl dX1_read_58 ?_
        obtain ⟨r_3, h_4, h⟩ := bd1_e h
        refine a_callVi C0 (wdX1_10 cA q0 q1 q2 q3 q4 q5 q6 q7 q8 q9 f0 f1 f2 f3 f4 f5 f6 f7 f8 f9) (As := []) (rest := []) (ctX0_failed l D cA q3 q4 f3 h_4) (cwV 0 C0.1.2.2.2.2 gX1_read_X0_failed rfl rfl rfl hdX0_failed ⟨Nat.le_of_ble_eq_true rfl, Nat.le_of_ble_eq_true rfl⟩) [3] [0, 1, 2, 4, 5, 6, 7, 8, 9] [0, 1, 2, 9, 3, 4, 5, 6, 7, 8] rfl rfl rfl rfl (by decide) rfl rfl rfl rfl rfl rfl (Nat.le_of_ble_eq_true rfl) dX1_read_61 ⟨Nat.zero_le _, Nat.zero_le _⟩ ?_
        refine a_if_ne C0 77 dX1_read_64 (by decide) (fun c_5 => ?_) (fun c_5 => ?_)
        · have h := ie_ c_5 h
          refine a_aload_n C0 dX1_read_77 rfl 0 rfl ?_
          refine a_get C0 inX1_read_X1 0 rfl rfl 1 (by decide) lkX1_read_28 (fun _ h9 => h9) (.ref q3) rfl dX1_read_78 ?_
          refine a_getN C0 inX1_read_X0 3 rfl rfl 4 (by decide) nfX1_read_66 (fun _ h9 => h9) (.int (f3 4)) rfl dX1_read_81 ?_
          obtain rfl := Option.some.inj h
          exact a_iret C0 dX1_read_84 rfl rfl
        · have h := it_ c_5 h
          refine a_aload_n C0 dX1_read_67 rfl 0 rfl ?_
          obtain ⟨f0_6, f3_7, f4_8, f5_9, f6_10, f7_11, f8_12, f9_13, h_14, h⟩ := bd8_e h
          refine a_callVv C0 (wdX1_10 cA q0 q1 q2 q3 q4 q5 q6 q7 q8 q9 f0_6 f1 f2 f3_7 f4_8 f5_9 f6_10 f7_11 f8_12 f9_13) (As := []) (rest := []) (ctX1_readItem l D cA q0 q1 q2 q3 q4 q5 q6 q7 q8 q9 N f0 f1 f2 f3 f4 f5 f6 f7 f8 f9 h_14) (cwV 0 C0.1.2.2.2.2 gX1_read_X1_readItem rfl rfl rfl hdX1_readItem ⟨Nat.le_of_ble_eq_true rfl, Nat.le_of_ble_eq_true rfl⟩) [0, 1, 2, 3, 4, 5, 6, 7, 8, 9] [] [0, 1, 2, 3, 4, 5, 6, 7, 8, 9] rfl rfl rfl rfl (by decide) rfl rfl rfl rfl rfl rfl (Nat.le_of_ble_eq_true rfl) dX1_read_68 ⟨Nat.zero_le _, Nat.zero_le _⟩ ?_
          obtain ⟨x_15, ex_15, h⟩ := lt_e h
          refine a_iinc C0 x_15 [(4, .int x_15), (0, .ref q0), (1, .int a1), (2, .int a2), (3, .int a3)] dX1_read_71 4 rfl (by subst ex_15; rfl) (by decide) rfl ?_
          refine a_goto C0 42 dX1_read_74 (by decide) ?_
          refine a_lv [1, 2, 3, 4, 0] (lv' := [(0, .ref q0), (1, .int a1), (2, .int a2), (3, .int a3), (4, .int x_15)]) rfl ?_
          exact hrc42 x_15 f0_6 f3_7 f4_8 f5_9 f6_10 f7_11 f8_12 f9_13 h
set_option maxHeartbeats 4000000 in
set_option maxRecDepth 100000 in
theorem bwX1_read {p : Program} {l : Launch} {e : Env} {s : State} {m : MethodId} {args : Array Value} {below : List Frame} {meth : Method} {c : Code} {D : va_G} {A : Nat → Prop} {cA : ClassId} {q0 q1 q2 q3 q4 q5 q6 q7 q8 q9 : Nat} {res : Int32 × (Nat → Int32) × (Nat → Int32) × (Nat → Int32) × (Nat → Int32) × (Nat → Int32) × (Nat → Int32) × (Nat → Int32) × (Nat → Int32)} (C0 : cx p s m args meth c cX1_read 5 RX1 wsX1_read (some .int) D vwCl [(cA, .int)] A) (N : Nat) (a1 : Int32) (a2 : Int32) (a3 : Int32) (f0 : Nat → Int32) (f1 : Nat → Int32) (f2 : Nat → Int32) (f3 : Nat → Int32) (f4 : Nat → Int32) (f5 : Nat → Int32) (f6 : Nat → Int32) (f7 : Nat → Int32) (f8 : Nat → Int32) (f9 : Nat → Int32) (h : pX1_read N a1 a2 a3 f0 f1 f2 f3 f4 f5 f6 f7 f8 f9 = some res) : At_ p l e (rmX1_read) s m args below meth c D vwCl A 5 0 0 (Qi_ below args s D vwCl A (wdX1_10 cA q0 q1 q2 q3 q4 q5 q6 q7 q8 q9 res.2.1 f1 f2 res.2.2.1 res.2.2.2.1 res.2.2.2.2.1 res.2.2.2.2.2.1 res.2.2.2.2.2.2.1 res.2.2.2.2.2.2.2.1 res.2.2.2.2.2.2.2.2) res.1) 0 [(0, .ref q0), (1, .int a1), (2, .int a2), (3, .int a3)] [] (wdX1_10 cA q0 q1 q2 q3 q4 q5 q6 q7 q8 q9 f0 f1 f2 f3 f4 f5 f6 f7 f8 f9) := by
  unfold pX1_read at h
  refine a_aload_n C0 dX1_read_0 rfl 0 rfl ?_
  refine a_get C0 inX1_read_X1 0 rfl rfl 1 (by decide) lkX1_read_28 (fun _ h9 => h9) (.ref q3) rfl dX1_read_1 ?_
  refine a_iload_n C0 dX1_read_4 rfl 1 rfl ?_
  refine a_iload_n C0 dX1_read_5 rfl 2 rfl ?_
  refine a_iload_n C0 dX1_read_6 rfl 3 rfl ?_
  obtain ⟨f3_16, f4_17, h_18, h⟩ := bd2_e h
  refine a_callVv C0 (wdX1_10 cA q0 q1 q2 q3 q4 q5 q6 q7 q8 q9 f0 f1 f2 f3_16 f4_17 f5 f6 f7 f8 f9) (As := [.int a1, .int a2, .int a3]) (rest := []) (ctX0_start l D cA q3 q4 q5 a1 a2 a3 f3 f4 h_18) (cwV 3 C0.1.2.2.2.2 gX1_read_X0_start rfl rfl rfl hdX0_start ⟨Nat.le_of_ble_eq_true rfl, Nat.le_of_ble_eq_true rfl⟩) [3, 4] [0, 1, 2, 5, 6, 7, 8, 9] [0, 1, 2, 8, 9, 3, 4, 5, 6, 7] rfl rfl rfl rfl (by decide) rfl rfl rfl rfl rfl rfl (Nat.le_of_ble_eq_true rfl) dX1_read_7 ⟨Nat.zero_le _, Nat.zero_le _⟩ ?_
  refine a_aload_n C0 dX1_read_10 rfl 0 rfl ?_
  refine a_iconst C0 (0 : Int32) dX1_read_11 (by decide) ?_
  obtain ⟨f0_19, ef0_19, h⟩ := lt_e h
  refine a_put C0 inX1_read_X1 tyX1 tyX1_ok nmX1 0 rfl rfl 7 (by decide) lkX1_read_43 (fun _ h9 => h9) rfl (ty := .int) (v := .int (0 : Int32)) (by decide +kernel) rfl rfl (Nat.le_of_ble_eq_true rfl) dX1_read_12 (wdX1_10 cA q0 q1 q2 q3 q4 q5 q6 q7 q8 q9 f0_19 f1 f2 f3_16 f4_17 f5 f6 f7 f8 f9) (by subst ef0_19; rfl) ?_
  refine a_aload_n C0 dX1_read_15 rfl 0 rfl ?_
  refine a_iconst C0 (0 : Int32) dX1_read_16 (by decide) ?_
  obtain ⟨f0_20, ef0_20, h⟩ := lt_e h
  refine a_put C0 inX1_read_X1 tyX1 tyX1_ok nmX1 0 rfl rfl 8 (by decide) lkX1_read_47 (fun _ h9 => h9) rfl (ty := .int) (v := .int (0 : Int32)) (by decide +kernel) rfl rfl (Nat.le_of_ble_eq_true rfl) dX1_read_17 (wdX1_10 cA q0 q1 q2 q3 q4 q5 q6 q7 q8 q9 f0_20 f1 f2 f3_16 f4_17 f5 f6 f7 f8 f9) (by subst ef0_20; rfl) ?_
  refine a_aload_n C0 dX1_read_20 rfl 0 rfl ?_
  refine a_aload_n C0 dX1_read_21 rfl 0 rfl ?_
  refine a_get C0 inX1_read_X1 0 rfl rfl 0 (by decide) lkX1_read_24 (fun _ h9 => h9) (.ref q1) rfl dX1_read_22 ?_
  obtain ⟨r_21, h_22, h⟩ := bd1_e h
  refine a_callVi C0 (wdX1_10 cA q0 q1 q2 q3 q4 q5 q6 q7 q8 q9 f0_20 f1 f2 f3_16 f4_17 f5 f6 f7 f8 f9) (As := []) (rest := [.ref q0]) (ctX5_count l D cA q1 q2 f1 h_22) (cwV 0 C0.1.2.2.2.2 gX1_read_X5_count rfl rfl rfl hdX5_count ⟨Nat.le_of_ble_eq_true rfl, Nat.le_of_ble_eq_true rfl⟩) [1] [0, 2, 3, 4, 5, 6, 7, 8, 9] [0, 9, 1, 2, 3, 4, 5, 6, 7, 8] rfl rfl rfl rfl (by decide) rfl rfl rfl rfl rfl rfl (Nat.le_of_ble_eq_true rfl) dX1_read_25 ⟨Nat.zero_le _, Nat.zero_le _⟩ ?_
  refine a_aload_n C0 dX1_read_28 rfl 0 rfl ?_
  refine a_get C0 inX1_read_X1 0 rfl rfl 0 (by decide) lkX1_read_24 (fun _ h9 => h9) (.ref q1) rfl dX1_read_29 ?_
  obtain ⟨r_23, h_24, h⟩ := bd1_e h
  refine a_callVi C0 (wdX1_10 cA q0 q1 q2 q3 q4 q5 q6 q7 q8 q9 f0_20 f1 f2 f3_16 f4_17 f5 f6 f7 f8 f9) (As := []) (rest := [.int r_21, .ref q0]) (ctX5_count l D cA q1 q2 f1 h_24) (cwV 0 C0.1.2.2.2.2 gX1_read_X5_count rfl rfl rfl hdX5_count ⟨Nat.le_of_ble_eq_true rfl, Nat.le_of_ble_eq_true rfl⟩) [1] [0, 2, 3, 4, 5, 6, 7, 8, 9] [0, 9, 1, 2, 3, 4, 5, 6, 7, 8] rfl rfl rfl rfl (by decide) rfl rfl rfl rfl rfl rfl (Nat.le_of_ble_eq_true rfl) dX1_read_32 ⟨Nat.zero_le _, Nat.zero_le _⟩ ?_
  refine a_iconst C0 (0 : Int32) dX1_read_35 (by decide) ?_
  obtain ⟨f0_25, f3_26, f6_27, f7_28, f8_29, f9_30, h_31, h⟩ := bd6_e h
  refine a_callVv C0 (wdX1_10 cA q0 q1 q2 q3 q4 q5 q6 q7 q8 q9 f0_25 f1 f2 f3_26 f4_17 f5 f6_27 f7_28 f8_29 f9_30) (As := [.int r_21, .int r_23, .int (0 : Int32)]) (rest := []) (ctX1_enterPack l D cA q0 q1 q3 q4 q5 q6 q7 q8 q9 r_21 r_23 (0 : Int32) f0_20 f3_16 f4_17 f6 f7 f8 f9 h_31) (cwV 3 C0.1.2.2.2.2 gX1_read_X1_enterPack rfl rfl rfl hdX1_enterPack ⟨Nat.le_of_ble_eq_true rfl, Nat.le_of_ble_eq_true rfl⟩) [0, 3, 4, 6, 7, 8, 9] [1, 2, 5] [3, 0, 1, 4, 5, 2, 6, 7, 8, 9] rfl rfl rfl rfl (by decide) rfl rfl rfl rfl rfl rfl (Nat.le_of_ble_eq_true rfl) dX1_read_36 ⟨Nat.zero_le _, Nat.zero_le _⟩ ?_
  refine a_iconst C0 (0 : Int32) dX1_read_39 (by decide) ?_
  refine a_istore C0 [(4, .int (0 : Int32)), (0, .ref q0), (1, .int a1), (2, .int a2), (3, .int a3)] dX1_read_40 (by decide) rfl ?_
  refine a_lv [1, 2, 3, 4, 0] (lv' := [(0, .ref q0), (1, .int a1), (2, .int a2), (3, .int a3), (4, .int (0 : Int32))]) rfl ?_
  exact bwX1_read_42 C0 N a1 a2 a3 f1 f2 N (0 : Int32) f0_25 f3_26 f4_17 f5 f6_27 f7_28 f8_29 f9_30 h
set_option maxRecDepth 100000 in
theorem ctX1_read (l : Launch) (D : va_G) (cA : ClassId) (q0 q1 q2 q3 q4 q5 q6 q7 q8 q9 : Nat) (N : Nat) (a1 : Int32) (a2 : Int32) (a3 : Int32) (f0 : Nat → Int32) (f1 : Nat → Int32) (f2 : Nat → Int32) (f3 : Nat → Int32) (f4 : Nat → Int32) (f5 : Nat → Int32) (f6 : Nat → Int32) (f7 : Nat → Int32) (f8 : Nat → Int32) (f9 : Nat → Int32) {res : Int32 × (Nat → Int32) × (Nat → Int32) × (Nat → Int32) × (Nat → Int32) × (Nat → Int32) × (Nat → Int32) × (Nat → Int32) × (Nat → Int32)} (h : pX1_read N a1 a2 a3 f0 f1 f2 f3 f4 f5 f6 f7 f8 f9 = some res) : Cti l yX1_read wsX1_read (rmX1_read) D vwCl [(cA, .int)] [.ref q0, .int a1, .int a2, .int a3] (wdX1_10 cA q0 q1 q2 q3 q4 q5 q6 q7 q8 q9 f0 f1 f2 f3 f4 f5 f6 f7 f8 f9) (wdX1_10 cA q0 q1 q2 q3 q4 q5 q6 q7 q8 q9 res.2.1 f1 f2 res.2.2.1 res.2.2.2.1 res.2.2.2.2.1 res.2.2.2.2.2.1 res.2.2.2.2.2.2.1 res.2.2.2.2.2.2.2.1 res.2.2.2.2.2.2.2.2) 0 0 res.1 :=
  ct_i (maxL := 5) (cc := cX1_read) (by decide) rfl (Nat.le_of_ble_eq_true rfl) (fun p e s m below meth c C0 => bwX1_read C0 N a1 a2 a3 f0 f1 f2 f3 f4 f5 f6 f7 f8 f9 h)
