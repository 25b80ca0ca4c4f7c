/-! PackDrawer$Account.start -/
abbrev wdX0_0 (cA : ClassId) (q0 q1 q2 : Nat) (f0 : Nat → Int32) (f1 : Nat → Int32) : va_W := [(q0, .inr (0, [.ref q1, .int (f0 1), .int (f0 2), .int (f0 3), .int (f0 4), .int (f0 5), .int (f0 6), .int (f0 7), .int (f0 8), .int (f0 9), .int (f0 10), .int (f0 11)])), (q1, .inr (4, [.ref q2, .int (f1 1)]))]
theorem hdX4_backTo : yX4_backTo.cls = RX4 ∧ yX4_backTo.cls ≠ "java/lang/invoke/MethodHandle" ∧ yX4_backTo.cls ≠ "java/lang/invoke/VarHandle" ∧ (parseMethodDescriptor yX4_backTo.desc).map (fun d => d.parameters.length) = some 1 := by decide +kernel
abbrev rmX0_start : Room := { frames := 1, cells := 0, slots := 0, locals := 21 }
theorem lkX0_start_25 : Cond.fieldLink RX0 25 RX0 (TX0 1).2.1 (TX0 1).2.2.1 ∈ wsX0_start := by decide +kernel
theorem inX0_start_X0 : ∀ w ∈ u_ws RX0 TX0 12, w ∈ wsX0_start := by decide +kernel
theorem lkX0_start_28 : Cond.fieldLink RX0 28 RX0 (TX0 2).2.1 (TX0 2).2.2.1 ∈ wsX0_start := by decide +kernel
theorem lkX0_start_31 : Cond.fieldLink RX0 31 RX0 (TX0 3).2.1 (TX0 3).2.2.1 ∈ wsX0_start := by decide +kernel
theorem lkX0_start_12 : Cond.fieldLink RX0 12 RX0 (TX0 0).2.1 (TX0 0).2.2.1 ∈ wsX0_start := by decide +kernel
theorem lkX0_start_18 : Cond.fieldLink RX0 18 RX0 (TX0 4).2.1 (TX0 4).2.2.1 ∈ wsX0_start := by decide +kernel
theorem lkX0_start_22 : Cond.fieldLink RX0 22 RX0 (TX0 5).2.1 (TX0 5).2.2.1 ∈ wsX0_start := by decide +kernel
theorem lkX0_start_38 : Cond.fieldLink RX0 38 RX0 (TX0 6).2.1 (TX0 6).2.2.1 ∈ wsX0_start := by decide +kernel
theorem lkX0_start_41 : Cond.fieldLink RX0 41 RX0 (TX0 7).2.1 (TX0 7).2.2.1 ∈ wsX0_start := by decide +kernel
theorem lkX0_start_44 : Cond.fieldLink RX0 44 RX0 (TX0 8).2.1 (TX0 8).2.2.1 ∈ wsX0_start := by decide +kernel
theorem lkX0_start_47 : Cond.fieldLink RX0 47 RX0 (TX0 9).2.1 (TX0 9).2.2.1 ∈ wsX0_start := by decide +kernel
theorem lkX0_start_50 : Cond.fieldLink RX0 50 RX0 (TX0 10).2.1 (TX0 10).2.2.1 ∈ wsX0_start := by decide +kernel
theorem lkX0_start_53 : Cond.fieldLink RX0 53 RX0 (TX0 11).2.1 (TX0 11).2.2.1 ∈ wsX0_start := by decide +kernel
def pX0_start (a1 : Int32) (a2 : Int32) (a3 : Int32) (f0 : Nat → Int32) (f1 : Nat → Int32) : Option ((Nat → Int32) × (Nat → Int32)) := lt_ (upd f0 1 a1) (fun f0_1 => lt_ (upd f0_1 2 a2) (fun f0_2 => lt_ (upd f0_2 3 a3) (fun f0_3 => bd1 (pX4_backTo (0 : Int32) f1) (fun f1_4 => lt_ (upd f0_3 4 (0 : Int32)) (fun f0_6 => lt_ (upd f0_6 5 (-1 : Int32)) (fun f0_7 => lt_ (upd f0_7 6 (0 : Int32)) (fun f0_8 => lt_ (upd f0_8 7 (0 : Int32)) (fun f0_9 => lt_ (upd f0_9 8 (0 : Int32)) (fun f0_10 => lt_ (upd f0_10 9 (0 : Int32)) (fun f0_11 => lt_ (upd f0_11 10 (0 : Int32)) (fun f0_12 => lt_ (upd f0_12 11 (0 : Int32)) (fun f0_13 => some (f0_13, f1_4)))))))))))))
set_option maxHeartbeats 4000000 in
set_option maxRecDepth 100000 in
theorem bwX0_start {p : Program} {l : Launch} {e : Env} {s : State} {m : MethodId} {args : Array Value} {below : List Frame} {meth : Method} {c : Code} {D : va_G} {A : Nat → Prop} {cA : ClassId} {q0 q1 q2 : Nat} {res : (Nat → Int32) × (Nat → Int32)} (C0 : cx p s m args meth c cX0_start 4 RX0 wsX0_start none D vwCl [(cA, .int)] A) (a1 : Int32) (a2 : Int32) (a3 : Int32) (f0 : Nat → Int32) (f1 : Nat → Int32) (h : pX0_start a1 a2 a3 f0 f1 = some res) : At_ p l e (rmX0_start) s m args below meth c D vwCl A 4 0 0 (Qv_ below args s D vwCl A (wdX0_0 cA q0 q1 q2 res.1 res.2)) 0 [(0, .ref q0), (1, .int a1), (2, .int a2), (3, .int a3)] [] (wdX0_0 cA q0 q1 q2 f0 f1) := by
  unfold pX0_start at h
  refine a_aload_n C0 dX0_start_0 rfl 0 rfl ?_
  refine a_iload_n C0 dX0_start_1 rfl 1 rfl ?_
  obtain ⟨f0_1, ef0_1, h⟩ := lt_e h
  refine a_put C0 inX0_start_X0 tyX0 tyX0_ok nmX0 0 rfl rfl 1 (by decide) lkX0_start_25 (fun _ h9 => h9) rfl (ty := .int) (v := .int a1) (by decide +kernel) rfl rfl (Nat.le_of_ble_eq_true rfl) dX0_start_2 (wdX0_0 cA q0 q1 q2 f0_1 f1) (by subst ef0_1; rfl) ?_
  refine a_aload_n C0 dX0_start_5 rfl 0 rfl ?_
  refine a_iload_n C0 dX0_start_6 rfl 2 rfl ?_
  obtain ⟨f0_2, ef0_2, h⟩ := lt_e h
  refine a_put C0 inX0_start_X0 tyX0 tyX0_ok nmX0 0 rfl rfl 2 (by decide) lkX0_start_28 (fun _ h9 => h9) rfl (ty := .int) (v := .int a2) (by decide +kernel) rfl rfl (Nat.le_of_ble_eq_true rfl) dX0_start_7 (wdX0_0 cA q0 q1 q2 f0_2 f1) (by subst ef0_2; rfl) ?_
  refine a_aload_n C0 dX0_start_10 rfl 0 rfl ?_
  refine a_iload_n C0 dX0_start_11 rfl 3 rfl ?_
  obtain ⟨f0_3, ef0_3, h⟩ := lt_e h
  refine a_put C0 inX0_start_X0 tyX0 tyX0_ok nmX0 0 rfl rfl 3 (by decide) lkX0_start_31 (fun _ h9 => h9) rfl (ty := .int) (v := .int a3) (by decide +kernel) rfl rfl (Nat.le_of_ble_eq_true rfl) dX0_start_12 (wdX0_0 cA q0 q1 q2 f0_3 f1) (by subst ef0_3; rfl) ?_
  refine a_aload_n C0 dX0_start_15 rfl 0 rfl ?_
  refine a_get C0 inX0_start_X0 0 rfl rfl 0 (by decide) lkX0_start_12 (fun _ h9 => h9) (.ref q1) rfl dX0_start_16 ?_
  refine a_iconst C0 (0 : Int32) dX0_start_19 (by decide) ?_
  obtain ⟨f1_4, h_5, h⟩ := bd1_e h
  refine a_callVv C0 (wdX0_0 cA q0 q1 q2 f0_3 f1_4) (As := [.int (0 : Int32)]) (rest := []) (ctX4_backTo l D cA q1 q2 (0 : Int32) f1 h_5) (cwV 1 C0.1.2.2.2.2 gX0_start_X4_backTo rfl rfl rfl hdX4_backTo ⟨Nat.le_of_ble_eq_true rfl, Nat.le_of_ble_eq_true rfl⟩) [1] [0] [0, 1] rfl rfl rfl rfl (by decide) rfl rfl rfl rfl rfl rfl (Nat.le_of_ble_eq_true rfl) dX0_start_20 ⟨Nat.zero_le _, Nat.zero_le _⟩ ?_
  refine a_aload_n C0 dX0_start_23 rfl 0 rfl ?_
  refine a_iconst C0 (0 : Int32) dX0_start_24 (by decide) ?_
  obtain ⟨f0_6, ef0_6, h⟩ := lt_e h
  refine a_put C0 inX0_start_X0 tyX0 tyX0_ok nmX0 0 rfl rfl 4 (by decide) lkX0_start_18 (fun _ h9 => h9) rfl (ty := .int) (v := .int (0 : Int32)) (by decide +kernel) rfl rfl (Nat.le_of_ble_eq_true rfl) dX0_start_25 (wdX0_0 cA q0 q1 q2 f0_6 f1_4) (by subst ef0_6; rfl) ?_
  refine a_aload_n C0 dX0_start_28 rfl 0 rfl ?_
  refine a_iconst C0 (-1 : Int32) dX0_start_29 (by decide) ?_
  obtain ⟨f0_7, ef0_7, h⟩ := lt_e h
  refine a_put C0 inX0_start_X0 tyX0 tyX0_ok nmX0 0 rfl rfl 5 (by decide) lkX0_start_22 (fun _ h9 => h9) rfl (ty := .int) (v := .int (-1 : Int32)) (by decide +kernel) rfl rfl (Nat.le_of_ble_eq_true rfl) dX0_start_30 (wdX0_0 cA q0 q1 q2 f0_7 f1_4) (by subst ef0_7; rfl) ?_
  refine a_aload_n C0 dX0_start_33 rfl 0 rfl ?_
  refine a_iconst C0 (0 : Int32) dX0_start_34 (by decide) ?_
  obtain ⟨f0_8, ef0_8, h⟩ := lt_e h
  refine a_put C0 inX0_start_X0 tyX0 tyX0_ok nmX0 0 rfl rfl 6 (by decide) lkX0_start_38 (fun _ h9 => h9) rfl (ty := .int) (v := .int (0 : Int32)) (by decide +kernel) rfl rfl (Nat.le_of_ble_eq_true rfl) dX0_start_35 (wdX0_0 cA q0 q1 q2 f0_8 f1_4) (by subst ef0_8; rfl) ?_
  refine a_aload_n C0 dX0_start_38 rfl 0 rfl ?_
  refine a_iconst C0 (0 : Int32) dX0_start_39 (by decide) ?_
  obtain ⟨f0_9, ef0_9, h⟩ := lt_e h
  refine a_put C0 inX0_start_X0 tyX0 tyX0_ok nmX0 0 rfl rfl 7 (by decide) lkX0_start_41 (fun _ h9 => h9) rfl (ty := .int) (v := .int (0 : Int32)) (by decide +kernel) rfl rfl (Nat.le_of_ble_eq_true rfl) dX0_start_40 (wdX0_0 cA q0 q1 q2 f0_9 f1_4) (by subst ef0_9; rfl) ?_
  refine a_aload_n C0 dX0_start_43 rfl 0 rfl ?_
  refine a_iconst C0 (0 : Int32) dX0_start_44 (by decide) ?_
  obtain ⟨f0_10, ef0_10, h⟩ := lt_e h
  refine a_put C0 inX0_start_X0 tyX0 tyX0_ok nmX0 0 rfl rfl 8 (by decide) lkX0_start_44 (fun _ h9 => h9) rfl (ty := .int) (v := .int (0 : Int32)) (by decide +kernel) rfl rfl (Nat.le_of_ble_eq_true rfl) dX0_start_45 (wdX0_0 cA q0 q1 q2 f0_10 f1_4) (by subst ef0_10; rfl) ?_
  refine a_aload_n C0 dX0_start_48 rfl 0 rfl ?_
  refine a_iconst C0 (0 : Int32) dX0_start_49 (by decide) ?_
  obtain ⟨f0_11, ef0_11, h⟩ := lt_e h
  refine a_put C0 inX0_start_X0 tyX0 tyX0_ok nmX0 0 rfl rfl 9 (by decide) lkX0_start_47 (fun _ h9 => h9) rfl (ty := .int) (v := .int (0 : Int32)) (by decide +kernel) rfl rfl (Nat.le_of_ble_eq_true rfl) dX0_start_50 (wdX0_0 cA q0 q1 q2 f0_11 f1_4) (by subst ef0_11; rfl) ?_
  refine a_aload_n C0 dX0_start_53 rfl 0 rfl ?_
  refine a_iconst C0 (0 : Int32) dX0_start_54 (by decide) ?_
  obtain ⟨f0_12, ef0_12, h⟩ := lt_e h
  refine a_put C0 inX0_start_X0 tyX0 tyX0_ok nmX0 0 rfl rfl 10 (by decide) lkX0_start_50 (fun _ h9 => h9) rfl (ty := .int) (v := .int (0 : Int32)) (by decide +kernel) rfl rfl (Nat.le_of_ble_eq_true rfl) dX0_start_55 (wdX0_0 cA q0 q1 q2 f0_12 f1_4) (by subst ef0_12; rfl) ?_
  refine a_aload_n C0 dX0_start_58 rfl 0 rfl ?_
  refine a_iconst C0 (0 : Int32) dX0_start_59 (by decide) ?_
  obtain ⟨f0_13, ef0_13, h⟩ := lt_e h
  refine a_put C0 inX0_start_X0 tyX0 tyX0_ok nmX0 0 rfl rfl 11 (by decide) lkX0_start_53 (fun _ h9 => h9) rfl (ty := .int) (v := .int (0 : Int32)) (by decide +kernel) rfl rfl (Nat.le_of_ble_eq_true rfl) dX0_start_60 (wdX0_0 cA q0 q1 q2 f0_13 f1_4) (by subst ef0_13; rfl) ?_
  obtain rfl := Option.some.inj h
  exact a_vret C0 dX0_start_63 rfl
set_option maxRecDepth 100000 in
theorem ctX0_start (l : Launch) (D : va_G) (cA : ClassId) (q0 q1 q2 : Nat) (a1 : Int32) (a2 : Int32) (a3 : Int32) (f0 : Nat → Int32) (f1 : Nat → Int32) {res : (Nat → Int32) × (Nat → Int32)} (h : pX0_start a1 a2 a3 f0 f1 = some res) : Ctv l yX0_start wsX0_start (rmX0_start) D vwCl [(cA, .int)] [.ref q0, .int a1, .int a2, .int a3] (wdX0_0 cA q0 q1 q2 f0 f1) (wdX0_0 cA q0 q1 q2 res.1 res.2) 0 0 :=
  ct_n (S := Unit) (maxL := 4) (cc := cX0_start) (by decide) rfl (Nat.le_of_ble_eq_true rfl) (fun p e s m below meth c _ C0 => bwX0_start C0 a1 a2 a3 f0 f1 h)
/-! PackDrawer$Account.failed -/
abbrev wdX0_1 (cA : ClassId) (q0 q1 : Nat) (f0 : Nat → Int32) : va_W := [(q0, .inr (0, [.ref q1, .int (f0 1), .int (f0 2), .int (f0 3), .int (f0 4), .int (f0 5), .int (f0 6), .int (f0 7), .int (f0 8), .int (f0 9), .int (f0 10), .int (f0 11)]))]
abbrev rmX0_failed : Room := { frames := 0, cells := 0, slots := 0, locals := 0 }
theorem lkX0_failed_18 : Cond.fieldLink RX0 18 RX0 (TX0 4).2.1 (TX0 4).2.2.1 ∈ wsX0_failed := by decide +kernel
theorem inX0_failed_X0 : ∀ w ∈ u_ws RX0 TX0 12, w ∈ wsX0_failed := by decide +kernel
def pX0_failed (f0 : Nat → Int32) : Option (Int32) := if (f0 4) = 0 then some (0 : Int32) else some (1 : Int32)
set_option maxHeartbeats 4000000 in
set_option maxRecDepth 100000 in
theorem bwX0_failed {p : Program} {l : Launch} {e : Env} {s : State} {m : MethodId} {args : Array Value} {below : List Frame} {meth : Method} {c : Code} {D : va_G} {A : Nat → Prop} {cA : ClassId} {q0 q1 : Nat} {res : Int32} (C0 : cx p s m args meth c cX0_failed 1 RX0 wsX0_failed (some .boolean) D vwCl [(cA, .int)] A) (f0 : Nat → Int32) (h : pX0_failed f0 = some res) : At_ p l e (rmX0_failed) s m args below meth c D vwCl A 1 0 0 (Qi_ below args s D vwCl A (wdX0_1 cA q0 q1 f0) res) 0 [(0, .ref q0)] [] (wdX0_1 cA q0 q1 f0) := by
  unfold pX0_failed at h
  refine a_aload_n C0 dX0_failed_0 rfl 0 rfl ?_
  refine a_get C0 inX0_failed_X0 0 rfl rfl 4 (by decide) lkX0_failed_18 (fun _ h9 => h9) (.int (f0 4)) rfl dX0_failed_1 ?_
  refine a_if_eq C0 11 dX0_failed_4 (by decide) (fun c_1 => ?_) (fun c_1 => ?_)
  · have h := it_ c_1 h
    refine a_iconst C0 (0 : Int32) dX0_failed_11 (by decide) ?_
    obtain rfl := Option.some.inj h
    exact a_zret C0 dX0_failed_12 rfl rfl rfl
  · have h := ie_ c_1 h
    refine a_iconst C0 (1 : Int32) dX0_failed_7 (by decide) ?_
    refine a_goto C0 12 dX0_failed_8 (by decide) ?_
    obtain rfl := Option.some.inj h
    exact a_zret C0 dX0_failed_12 rfl rfl rfl
set_option maxRecDepth 100000 in
theorem ctX0_failed (l : Launch) (D : va_G) (cA : ClassId) (q0 q1 : Nat) (f0 : Nat → Int32) {res : Int32} (h : pX0_failed f0 = some res) : Cti l yX0_failed wsX0_failed (rmX0_failed) D vwCl [(cA, .int)] [.ref q0] (wdX0_1 cA q0 q1 f0) (wdX0_1 cA q0 q1 f0) 0 0 res :=
  ct_i (maxL := 1) (cc := cX0_failed) (by decide) rfl (Nat.le_of_ble_eq_true rfl) (fun p e s m below meth c C0 => bwX0_failed C0 f0 h)
/-! PackDrawer$Account.fail -/
abbrev rmX0_fail : Room := { frames := 0, cells := 0, slots := 0, locals := 0 }
theorem lkX0_fail_18 : Cond.fieldLink RX0 18 RX0 (TX0 4).2.1 (TX0 4).2.2.1 ∈ wsX0_fail := by decide +kernel
theorem inX0_fail_X0 : ∀ w ∈ u_ws RX0 TX0 12, w ∈ wsX0_fail := by decide +kernel
theorem lkX0_fail_22 : Cond.fieldLink RX0 22 RX0 (TX0 5).2.1 (TX0 5).2.2.1 ∈ wsX0_fail := by decide +kernel
def pX0_fail (a1 : Int32) (a2 : Int32) (f0 : Nat → Int32) : Option ((Nat → Int32)) := if (f0 4) = 0 then lt_ (upd f0 4 a1) (fun f0_2 => lt_ (upd f0_2 5 a2) (fun f0_3 => some f0_3)) else some f0
set_option maxHeartbeats 4000000 in
set_option maxRecDepth 100000 in
theorem bwX0_fail {p : Program} {l : Launch} {e : Env} {s : State} {m : MethodId} {args : Array Value} {below : List Frame} {meth : Method} {c : Code} {D : va_G} {A : Nat → Prop} {cA : ClassId} {q0 q1 : Nat} {res : (Nat → Int32)} (C0 : cx p s m args meth c cX0_fail 3 RX0 wsX0_fail none D vwCl [(cA, .int)] A) (a1 : Int32) (a2 : Int32) (f0 : Nat → Int32) (h : pX0_fail a1 a2 f0 = some res) : At_ p l e (rmX0_fail) s m args below meth c D vwCl A 3 0 0 (Qv_ below args s D vwCl A (wdX0_1 cA q0 q1 res)) 0 [(0, .ref q0), (1, .int a1), (2, .int a2)] [] (wdX0_1 cA q0 q1 f0) := by
  unfold pX0_fail at h
  refine a_aload_n C0 dX0_fail_0 rfl 0 rfl ?_
  refine a_get C0 inX0_fail_X0 0 rfl rfl 4 (by decide) lkX0_fail_18 (fun _ h9 => h9) (.int (f0 4)) rfl dX0_fail_1 ?_
  refine a_if_ne C0 17 dX0_fail_4 (by decide) (fun c_1 => ?_) (fun c_1 => ?_)
  · have h := ie_ c_1 h
    obtain rfl := Option.some.inj h
    exact a_vret C0 dX0_fail_17 rfl
  · have h := it_ c_1 h
    refine a_aload_n C0 dX0_fail_7 rfl 0 rfl ?_
    refine a_iload_n C0 dX0_fail_8 rfl 1 rfl ?_
    obtain ⟨f0_2, ef0_2, h⟩ := lt_e h
    refine a_put C0 inX0_fail_X0 tyX0 tyX0_ok nmX0 0 rfl rfl 4 (by decide) lkX0_fail_18 (fun _ h9 => h9) rfl (ty := .int) (v := .int a1) (by decide +kernel) rfl rfl (Nat.le_of_ble_eq_true rfl) dX0_fail_9 (wdX0_1 cA q0 q1 f0_2) (by subst ef0_2; rfl) ?_
    refine a_aload_n C0 dX0_fail_12 rfl 0 rfl ?_
    refine a_iload_n C0 dX0_fail_13 rfl 2 rfl ?_
    obtain ⟨f0_3, ef0_3, h⟩ := lt_e h
    refine a_put C0 inX0_fail_X0 tyX0 tyX0_ok nmX0 0 rfl rfl 5 (by decide) lkX0_fail_22 (fun _ h9 => h9) rfl (ty := .int) (v := .int a2) (by decide +kernel) rfl rfl (Nat.le_of_ble_eq_true rfl) dX0_fail_14 (wdX0_1 cA q0 q1 f0_3) (by subst ef0_3; rfl) ?_
    obtain rfl := Option.some.inj h
    exact a_vret C0 dX0_fail_17 rfl
set_option maxRecDepth 100000 in
theorem ctX0_fail (l : Launch) (D : va_G) (cA : ClassId) (q0 q1 : Nat) (a1 : Int32) (a2 : Int32) (f0 : Nat → Int32) {res : (Nat → Int32)} (h : pX0_fail a1 a2 f0 = some res) : Ctv l yX0_fail wsX0_fail (rmX0_fail) D vwCl [(cA, .int)] [.ref q0, .int a1, .int a2] (wdX0_1 cA q0 q1 f0) (wdX0_1 cA q0 q1 res) 0 0 :=
  ct_n (S := Unit) (maxL := 3) (cc := cX0_fail) (by decide) rfl (Nat.le_of_ble_eq_true rfl) (fun p e s m below meth c _ C0 => bwX0_fail C0 a1 a2 f0 h)
/-! PackDrawer$Account.answer -/
theorem hdX0_failed : yX0_failed.cls = RX0 ∧ yX0_failed.cls ≠ "java/lang/invoke/MethodHandle" ∧ yX0_failed.cls ≠ "java/lang/invoke/VarHandle" ∧ (parseMethodDescriptor yX0_failed.desc).map (fun d => d.parameters.length) = some 0 := by decide +kernel
abbrev rmX0_answer : Room := { frames := 1, cells := 0, slots := 0, locals := 20 }
theorem lkX0_answer_47 : Cond.fieldLink RX0 47 RX0 (TX0 9).2.1 (TX0 9).2.2.1 ∈ wsX0_answer := by decide +kernel
theorem inX0_answer_X0 : ∀ w ∈ u_ws RX0 TX0 12, w ∈ wsX0_answer := by decide +kernel
theorem lkX0_answer_18 : Cond.fieldLink RX0 18 RX0 (TX0 4).2.1 (TX0 4).2.2.1 ∈ wsX0_answer := by decide +kernel
def pX0_answer (f0 : Nat → Int32) : Option (Int32) := bd1 (pX0_failed f0) (fun r_1 => if r_1 = 0 then some (f0 9) else some ((-10 : Int32) - (f0 4)))
set_option maxHeartbeats 4000000 in
set_option maxRecDepth 100000 in
theorem bwX0_answer {p : Program} {l : Launch} {e : Env} {s : State} {m : MethodId} {args : Array Value} {below : List Frame} {meth : Method} {c : Code} {D : va_G} {A : Nat → Prop} {cA : ClassId} {q0 q1 : Nat} {res : Int32} (C0 : cx p s m args meth c cX0_answer 1 RX0 wsX0_answer (some .int) D vwCl [(cA, .int)] A) (f0 : Nat → Int32) (h : pX0_answer f0 = some res) : At_ p l e (rmX0_answer) s m args below meth c D vwCl A 1 0 0 (Qi_ below args s D vwCl A (wdX0_1 cA q0 q1 f0) res) 0 [(0, .ref q0)] [] (wdX0_1 cA q0 q1 f0) := by
  unfold pX0_answer at h
  refine a_aload_n C0 dX0_answer_0 rfl 0 rfl ?_
  obtain ⟨r_1, h_2, h⟩ := bd1_e h
  refine a_callVi C0 (wdX0_1 cA q0 q1 f0) (As := []) (rest := []) (ctX0_failed l D cA q0 q1 f0 h_2) (cwV 0 C0.1.2.2.2.2 gX0_answer_X0_failed rfl rfl rfl hdX0_failed ⟨Nat.le_of_ble_eq_true rfl, Nat.le_of_ble_eq_true rfl⟩) [0] [] [0] rfl rfl rfl rfl (by decide) rfl rfl rfl rfl rfl rfl (Nat.le_of_ble_eq_true rfl) dX0_answer_1 ⟨Nat.zero_le _, Nat.zero_le _⟩ ?_
  refine a_if_eq C0 17 dX0_answer_4 (by decide) (fun c_3 => ?_) (fun c_3 => ?_)
  · have h := it_ c_3 h
    refine a_aload_n C0 dX0_answer_17 rfl 0 rfl ?_
    refine a_get C0 inX0_answer_X0 0 rfl rfl 9 (by decide) lkX0_answer_47 (fun _ h9 => h9) (.int (f0 9)) rfl dX0_answer_18 ?_
    obtain rfl := Option.some.inj h
    exact a_iret C0 dX0_answer_21 rfl rfl
  · have h := ie_ c_3 h
    refine a_bipush C0 (-10 : Int32) dX0_answer_7 (by decide) ?_
    refine a_aload_n C0 dX0_answer_9 rfl 0 rfl ?_
    refine a_get C0 inX0_answer_X0 0 rfl rfl 4 (by decide) lkX0_answer_18 (fun _ h9 => h9) (.int (f0 4)) rfl dX0_answer_10 ?_
    refine a_isub C0 dX0_answer_13 ?_
    refine a_goto C0 21 dX0_answer_14 (by decide) ?_
    obtain rfl := Option.some.inj h
    exact a_iret C0 dX0_answer_21 rfl rfl
set_option maxRecDepth 100000 in
theorem ctX0_answer (l : Launch) (D : va_G) (cA : ClassId) (q0 q1 : Nat) (f0 : Nat → Int32) {res : Int32} (h : pX0_answer f0 = some res) : Cti l yX0_answer wsX0_answer (rmX0_answer) D vwCl [(cA, .int)] [.ref q0] (wdX0_1 cA q0 q1 f0) (wdX0_1 cA q0 q1 f0) 0 0 res :=
  ct_i (maxL := 1) (cc := cX0_answer) (by decide) rfl (Nat.le_of_ble_eq_true rfl) (fun p e s m below meth c C0 => bwX0_answer C0 f0 h)
/-! PackDrawer$Account.reachDepth -/
abbrev rmX0_reachDepth : Room := { frames := 1, cells := 0, slots := 0, locals := 21 }
theorem lkX0_reachDepth_50 : Cond.fieldLink RX0 50 RX0 (TX0 10).2.1 (TX0 10).2.2.1 ∈ wsX0_reachDepth := by decide +kernel
theorem inX0_reachDepth_X0 : ∀ w ∈ u_ws RX0 TX0 12, w ∈ wsX0_reachDepth := by decide +kernel
theorem mkX0_reachDepth_60 : Cond.methodLink RX0 60 Lib.Math.max.name ∈ wsX0_reachDepth := by decide +kernel
theorem msX0_reachDepth_max : Cond.static Lib.Math.max.name ∈ wsX0_reachDepth := by decide +kernel
theorem miX0_reachDepth : Cond.initialized "java/lang/Math" ∈ wsX0_reachDepth := by decide +kernel
theorem mcX0_reachDepth_max : Cond.code Lib.Math.max.name Lib.Math.max.code 2 (some .int) ∈ wsX0_reachDepth := by decide +kernel
def pX0_reachDepth (a1 : Int32) (f0 : Nat → Int32) : Option ((Nat → Int32)) := lt_ (upd f0 10 (if (f0 10) < a1 then a1 else (f0 10))) (fun f0_1 => some f0_1)
set_option maxHeartbeats 4000000 in
set_option maxRecDepth 100000 in
theorem bwX0_reachDepth {p : Program} {l : Launch} {e : Env} {s : State} {m : MethodId} {args : Array Value} {below : List Frame} {meth : Method} {c : Code} {D : va_G} {A : Nat → Prop} {cA : ClassId} {q0 q1 : Nat} {res : (Nat → Int32)} (C0 : cx p s m args meth c cX0_reachDepth 2 RX0 wsX0_reachDepth none D vwCl [(cA, .int)] A) (a1 : Int32) (f0 : Nat → Int32) (h : pX0_reachDepth a1 f0 = some res) : At_ p l e (rmX0_reachDepth) s m args below meth c D vwCl A 2 0 0 (Qv_ below args s D vwCl A (wdX0_1 cA q0 q1 res)) 0 [(0, .ref q0), (1, .int a1)] [] (wdX0_1 cA q0 q1 f0) := by
  unfold pX0_reachDepth at h
  refine a_aload_n C0 dX0_reachDepth_0 rfl 0 rfl ?_
  refine a_aload_n C0 dX0_reachDepth_1 rfl 0 rfl ?_
  refine a_get C0 inX0_reachDepth_X0 0 rfl rfl 10 (by decide) lkX0_reachDepth_50 (fun _ h9 => h9) (.int (f0 10)) rfl dX0_reachDepth_2 ?_
  refine a_iload_n C0 dX0_reachDepth_5 rfl 1 rfl ?_
  refine a_mmax C0 mkX0_reachDepth_60 msX0_reachDepth_max miX0_reachDepth mcX0_reachDepth_max (Nat.le_of_ble_eq_true rfl) (Nat.le_of_ble_eq_true rfl) (Nat.zero_le _) (Nat.zero_le _) dX0_reachDepth_6 ?_
  obtain ⟨f0_1, ef0_1, h⟩ := lt_e h
  refine a_put C0 inX0_reachDepth_X0 tyX0 tyX0_ok nmX0 0 rfl rfl 10 (by decide) lkX0_reachDepth_50 (fun _ h9 => h9) rfl (ty := .int) (v := .int (if (f0 10) < a1 then a1 else (f0 10))) (by decide +kernel) rfl rfl (Nat.le_of_ble_eq_true rfl) dX0_reachDepth_9 (wdX0_1 cA q0 q1 f0_1) (by subst ef0_1; rfl) ?_
  obtain rfl := Option.some.inj h
  exact a_vret C0 dX0_reachDepth_12 rfl
set_option maxRecDepth 100000 in
theorem ctX0_reachDepth (l : Launch) (D : va_G) (cA : ClassId) (q0 q1 : Nat) (a1 : Int32) (f0 : Nat → Int32) {res : (Nat → Int32)} (h : pX0_reachDepth a1 f0 = some res) : Ctv l yX0_reachDepth wsX0_reachDepth (rmX0_reachDepth) D vwCl [(cA, .int)] [.ref q0, .int a1] (wdX0_1 cA q0 q1 f0) (wdX0_1 cA q0 q1 res) 0 0 :=
  ct_n (S := Unit) (maxL := 2) (cc := cX0_reachDepth) (by decide) rfl (Nat.le_of_ble_eq_true rfl) (fun p e s m below meth c _ C0 => bwX0_reachDepth C0 a1 f0 h)
/-! PackDrawer$Account.beginItem -/
theorem hdX0_fail : yX0_fail.cls = RX0 ∧ yX0_fail.cls ≠ "java/lang/invoke/MethodHandle" ∧ yX0_fail.cls ≠ "java/lang/invoke/VarHandle" ∧ (parseMethodDescriptor yX0_fail.desc).map (fun d => d.parameters.length) = some 2 := by decide +kernel
abbrev rmX0_beginItem : Room := { frames := 1, cells := 0, slots := 0, locals := 22 }
theorem lkX0_beginItem_38 : Cond.fieldLink RX0 38 RX0 (TX0 6).2.1 (TX0 6).2.2.1 ∈ wsX0_beginItem := by decide +kernel
theorem inX0_beginItem_X0 : ∀ w ∈ u_ws RX0 TX0 12, w ∈ wsX0_beginItem := by decide +kernel
theorem lkX0_beginItem_31 : Cond.fieldLink RX0 31 RX0 (TX0 3).2.1 (TX0 3).2.2.1 ∈ wsX0_beginItem := by decide +kernel
theorem lkX0_beginItem_53 : Cond.fieldLink RX0 53 RX0 (TX0 11).2.1 (TX0 11).2.2.1 ∈ wsX0_beginItem := by decide +kernel
def pX0_beginItem (a1 : Int32) (f0 : Nat → Int32) : Option (Int32 × (Nat → Int32)) := if (f0 6) < (f0 3) then lt_ (upd f0 6 ((f0 6) + (1 : Int32))) (fun f0_2 => lt_ (upd f0_2 11 ((f0_2 11) + (1 : Int32))) (fun f0_3 => some ((1 : Int32), f0_3))) else bd1 (pX0_fail (9 : Int32) a1 f0) (fun f0_4 => some ((0 : Int32), f0_4))
set_option maxHeartbeats 4000000 in
set_option maxRecDepth 100000 in
theorem bwX0_beginItem {p : Program} {l : Launch} {e : Env} {s : State} {m : MethodId} {args : Array Value} {below : List Frame} {meth : Method} {c : Code} {D : va_G} {A : Nat → Prop} {cA : ClassId} {q0 q1 : Nat} {res : Int32 × (Nat → Int32)} (C0 : cx p s m args meth c cX0_beginItem 2 RX0 wsX0_beginItem (some .boolean) D vwCl [(cA, .int)] A) (a1 : Int32) (f0 : Nat → Int32) (h : pX0_beginItem a1 f0 = some res) : At_ p l e (rmX0_beginItem) s m args below meth c D vwCl A 2 0 0 (Qi_ below args s D vwCl A (wdX0_1 cA q0 q1 res.2) res.1) 0 [(0, .ref q0), (1, .int a1)] [] (wdX0_1 cA q0 q1 f0) := by
  unfold pX0_beginItem at h
  refine a_aload_n C0 dX0_beginItem_0 rfl 0 rfl ?_
  refine a_get C0 inX0_beginItem_X0 0 rfl rfl 6 (by decide) lkX0_beginItem_38 (fun _ h9 => h9) (.int (f0 6)) rfl dX0_beginItem_1 ?_
  refine a_aload_n C0 dX0_beginItem_4 rfl 0 rfl ?_
  refine a_get C0 inX0_beginItem_X0 0 rfl rfl 3 (by decide) lkX0_beginItem_31 (fun _ h9 => h9) (.int (f0 3)) rfl dX0_beginItem_5 ?_
  refine a_icmp_lt C0 20 dX0_beginItem_8 (by decide) (fun c_1 => ?_) (fun c_1 => ?_)
  · have h := it_ c_1 h
    refine a_aload_n C0 dX0_beginItem_20 rfl 0 rfl ?_
    refine a_dup C0 dX0_beginItem_21 rfl ?_
    refine a_get C0 inX0_beginItem_X0 0 rfl rfl 6 (by decide) lkX0_beginItem_38 (fun _ h9 => h9) (.int (f0 6)) rfl dX0_beginItem_22 ?_
    refine a_iconst C0 (1 : Int32) dX0_beginItem_25 (by decide) ?_
    refine a_iadd C0 dX0_beginItem_26 ?_
    obtain ⟨f0_2, ef0_2, h⟩ := lt_e h
    refine a_put C0 inX0_beginItem_X0 tyX0 tyX0_ok nmX0 0 rfl rfl 6 (by decide) lkX0_beginItem_38 (fun _ h9 => h9) rfl (ty := .int) (v := .int ((f0 6) + (1 : Int32))) (by decide +kernel) rfl rfl (Nat.le_of_ble_eq_true rfl) dX0_beginItem_27 (wdX0_1 cA q0 q1 f0_2) (by subst ef0_2; rfl) ?_
    refine a_aload_n C0 dX0_beginItem_30 rfl 0 rfl ?_
    refine a_dup C0 dX0_beginItem_31 rfl ?_
    refine a_get C0 inX0_beginItem_X0 0 rfl rfl 11 (by decide) lkX0_beginItem_53 (fun _ h9 => h9) (.int (f0_2 11)) rfl dX0_beginItem_32 ?_
    refine a_iconst C0 (1 : Int32) dX0_beginItem_35 (by decide) ?_
    refine a_iadd C0 dX0_beginItem_36 ?_
    obtain ⟨f0_3, ef0_3, h⟩ := lt_e h
    refine a_put C0 inX0_beginItem_X0 tyX0 tyX0_ok nmX0 0 rfl rfl 11 (by decide) lkX0_beginItem_53 (fun _ h9 => h9) rfl (ty := .int) (v := .int ((f0_2 11) + (1 : Int32))) (by decide +kernel) rfl rfl (Nat.le_of_ble_eq_true rfl) dX0_beginItem_37 (wdX0_1 cA q0 q1 f0_3) (by subst ef0_3; rfl) ?_
    refine a_iconst C0 (1 : Int32) dX0_beginItem_40 (by decide) ?_
    obtain rfl := Option.some.inj h
    exact a_zret C0 dX0_beginItem_41 rfl rfl rfl
  · have h := ie_ c_1 h
    refine a_aload_n C0 dX0_beginItem_11 rfl 0 rfl ?_
    refine a_bipush C0 (9 : Int32) dX0_beginItem_12 (by decide) ?_
    refine a_iload_n C0 dX0_beginItem_14 rfl 1 rfl ?_
    obtain ⟨f0_4, h_5, h⟩ := bd1_e h
    refine a_callVv C0 (wdX0_1 cA q0 q1 f0_4) (As := [.int (9 : Int32), .int a1]) (rest := []) (ctX0_fail l D cA q0 q1 (9 : Int32) a1 f0 h_5) (cwV 2 C0.1.2.2.2.2 gX0_beginItem_X0_fail rfl rfl rfl hdX0_fail ⟨Nat.le_of_ble_eq_true rfl, Nat.le_of_ble_eq_true rfl⟩) [0] [] [0] rfl rfl rfl rfl (by decide) rfl rfl rfl rfl rfl rfl (Nat.le_of_ble_eq_true rfl) dX0_beginItem_15 ⟨Nat.zero_le _, Nat.zero_le _⟩ ?_
    refine a_iconst C0 (0 : Int32) dX0_beginItem_18 (by decide) ?_
    obtain rfl := Option.some.inj h
    exact a_zret C0 dX0_beginItem_19 rfl rfl rfl
set_option maxRecDepth 100000 in
theorem ctX0_beginItem (l : Launch) (D : va_G) (cA : ClassId) (q0 q1 : Nat) (a1 : Int32) (f0 : Nat → Int32) {res : Int32 × (Nat → Int32)} (h : pX0_beginItem a1 f0 = some res) : Cti l yX0_beginItem wsX0_beginItem (rmX0_beginItem) D vwCl [(cA, .int)] [.ref q0, .int a1] (wdX0_1 cA q0 q1 f0) (wdX0_1 cA q0 q1 res.2) 0 0 res.1 :=
  ct_i (maxL := 2) (cc := cX0_beginItem) (by decide) rfl (Nat.le_of_ble_eq_true rfl) (fun p e s m below meth c C0 => bwX0_beginItem C0 a1 f0 h)
/-! PackDrawer$Account.charge -/
abbrev rmX0_charge : Room := { frames := 0, cells := 0, slots := 0, locals := 0 }
theorem lkX0_charge_47 : Cond.fieldLink RX0 47 RX0 (TX0 9).2.1 (TX0 9).2.2.1 ∈ wsX0_charge := by decide +kernel
theorem inX0_charge_X0 : ∀ w ∈ u_ws RX0 TX0 12, w ∈ wsX0_charge := by decide +kernel
theorem lkX0_charge_38 : Cond.fieldLink RX0 38 RX0 (TX0 6).2.1 (TX0 6).2.2.1 ∈ wsX0_charge := by decide +kernel
theorem lkX0_charge_41 : Cond.fieldLink RX0 41 RX0 (TX0 7).2.1 (TX0 7).2.2.1 ∈ wsX0_charge := by decide +kernel
theorem lkX0_charge_44 : Cond.fieldLink RX0 44 RX0 (TX0 8).2.1 (TX0 8).2.2.1 ∈ wsX0_charge := by decide +kernel
def bfX0_charge_39 (a1 : Int32) (a2 : Int32) (f0 : Nat → Int32) : Option ((Nat → Int32)) := if a2 = 0 then some f0 else lt_ (upd f0 9 ((f0 9) + a1)) (fun f0_2 => some f0_2)
def pX0_charge (a1 : Int32) (a2 : Int32) (f0 : Nat → Int32) : Option ((Nat → Int32)) := lt_ (upd f0 6 ((f0 6) + a1)) (fun f0_3 => lt_ (upd f0_3 7 ((f0_3 7) + a1)) (fun f0_4 => if (f0_4 7) ≤ (f0_4 8) then bfX0_charge_39 a1 a2 f0_4 else lt_ (upd f0_4 8 (f0_4 7)) (fun f0_6 => bfX0_charge_39 a1 a2 f0_6)))
set_option maxHeartbeats 4000000 in
set_option maxRecDepth 100000 in
theorem bwX0_charge_39 {p : Program} {l : Launch} {e : Env} {s : State} {m : MethodId} {args : Array Value} {below : List Frame} {meth : Method} {c : Code} {D : va_G} {A : Nat → Prop} {cA : ClassId} {q0 q1 : Nat} {res : (Nat → Int32)} (C0 : cx p s m args meth c cX0_charge 3 RX0 wsX0_charge none D vwCl [(cA, .int)] A) (a1 : Int32) (a2 : Int32) (f0 : Nat → Int32) (h : bfX0_charge_39 a1 a2  f0 = some res) : At_ p l e (rmX0_charge) s m args below meth c D vwCl A 3 0 0 (Qv_ below args s D vwCl A (wdX0_1 cA q0 q1 res)) 39 [(0, .ref q0), (1, .int a1), (2, .int a2)] [] (wdX0_1 cA q0 q1 f0) := by
  unfold bfX0_charge_39 at h
  refine a_iload_n C0 dX0_charge_39 rfl 2 rfl ?_
  refine a_if_eq C0 53 dX0_charge_40 (by decide) (fun c_1 => ?_) (fun c_1 => ?_)
  · have h := it_ c_1 h
    obtain rfl := Option.some.inj h
    exact a_vret C0 dX0_charge_53 rfl
  · have h := ie_ c_1 h
    refine a_aload_n C0 dX0_charge_43 rfl 0 rfl ?_
    refine a_dup C0 dX0_charge_44 rfl ?_
    refine a_get C0 inX0_charge_X0 0 rfl rfl 9 (by decide) lkX0_charge_47 (fun _ h9 => h9) (.int (f0 9)) rfl dX0_charge_45 ?_
    refine a_iload_n C0 dX0_charge_48 rfl 1 rfl ?_
    refine a_iadd C0 dX0_charge_49 ?_
    obtain ⟨f0_2, ef0_2, h⟩ := lt_e h
    refine a_put C0 inX0_charge_X0 tyX0 tyX0_ok nmX0 0 rfl rfl 9 (by decide) lkX0_charge_47 (fun _ h9 => h9) rfl (ty := .int) (v := .int ((f0 9) + a1)) (by decide +kernel) rfl rfl (Nat.le_of_ble_eq_true rfl) dX0_charge_50 (wdX0_1 cA q0 q1 f0_2) (by subst ef0_2; rfl) ?_
    obtain rfl := Option.some.inj h
    exact a_vret C0 dX0_charge_53 rfl
set_option maxHeartbeats 4000000 in
set_option maxRecDepth 100000 in
theorem bwX0_charge {p : Program} {l : Launch} {e : Env} {s : State} {m : MethodId} {args : Array Value} {below : List Frame} {meth : Method} {c : Code} {D : va_G} {A : Nat → Prop} {cA : ClassId} {q0 q1 : Nat} {res : (Nat → Int32)} (C0 : cx p s m args meth c cX0_charge 3 RX0 wsX0_charge none D vwCl [(cA, .int)] A) (a1 : Int32) (a2 : Int32) (f0 : Nat → Int32) (h : pX0_charge a1 a2 f0 = some res) : At_ p l e (rmX0_charge) s m args below meth c D vwCl A 3 0 0 (Qv_ below args s D vwCl A (wdX0_1 cA q0 q1 res)) 0 [(0, .ref q0), (1, .int a1), (2, .int a2)] [] (wdX0_1 cA q0 q1 f0) := by
  unfold pX0_charge at h
  refine a_aload_n C0 dX0_charge_0 rfl 0 rfl ?_
  refine a_dup C0 dX0_charge_1 rfl ?_
  refine a_get C0 inX0_charge_X0 0 rfl rfl 6 (by decide) lkX0_charge_38 (fun _ h9 => h9) (.int (f0 6)) rfl dX0_charge_2 ?_
  refine a_iload_n C0 dX0_charge_5 rfl 1 rfl ?_
  refine a_iadd C0 dX0_charge_6 ?_
  obtain ⟨f0_3, ef0_3, h⟩ := lt_e h
  refine a_put C0 inX0_charge_X0 tyX0 tyX0_ok nmX0 0 rfl rfl 6 (by decide) lkX0_charge_38 (fun _ h9 => h9) rfl (ty := .int) (v := .int ((f0 6) + a1)) (by decide +kernel) rfl rfl (Nat.le_of_ble_eq_true rfl) dX0_charge_7 (wdX0_1 cA q0 q1 f0_3) (by subst ef0_3; rfl) ?_
  refine a_aload_n C0 dX0_charge_10 rfl 0 rfl ?_
  refine a_dup C0 dX0_charge_11 rfl ?_
  refine a_get C0 inX0_charge_X0 0 rfl rfl 7 (by decide) lkX0_charge_41 (fun _ h9 => h9) (.int (f0_3 7)) rfl dX0_charge_12 ?_
  refine a_iload_n C0 dX0_charge_15 rfl 1 rfl ?_
  refine a_iadd C0 dX0_charge_16 ?_
  obtain ⟨f0_4, ef0_4, h⟩ := lt_e h
  refine a_put C0 inX0_charge_X0 tyX0 tyX0_ok nmX0 0 rfl rfl 7 (by decide) lkX0_charge_41 (fun _ h9 => h9) rfl (ty := .int) (v := .int ((f0_3 7) + a1)) (by decide +kernel) rfl rfl (Nat.le_of_ble_eq_true rfl) dX0_charge_17 (wdX0_1 cA q0 q1 f0_4) (by subst ef0_4; rfl) ?_
  refine a_aload_n C0 dX0_charge_20 rfl 0 rfl ?_
  refine a_get C0 inX0_charge_X0 0 rfl rfl 7 (by decide) lkX0_charge_41 (fun _ h9 => h9) (.int (f0_4 7)) rfl dX0_charge_21 ?_
  refine a_aload_n C0 dX0_charge_24 rfl 0 rfl ?_
  refine a_get C0 inX0_charge_X0 0 rfl rfl 8 (by decide) lkX0_charge_44 (fun _ h9 => h9) (.int (f0_4 8)) rfl dX0_charge_25 ?_
  refine a_icmp_le C0 39 dX0_charge_28 (by decide) (fun c_5 => ?_) (fun c_5 => ?_)
  · have h := it_ c_5 h
    exact bwX0_charge_39 C0 a1 a2 f0_4 h
  · have h := ie_ c_5 h
    refine a_aload_n C0 dX0_charge_31 rfl 0 rfl ?_
    refine a_aload_n C0 dX0_charge_32 rfl 0 rfl ?_
    refine a_get C0 inX0_charge_X0 0 rfl rfl 7 (by decide) lkX0_charge_41 (fun _ h9 => h9) (.int (f0_4 7)) rfl dX0_charge_33 ?_
    obtain ⟨f0_6, ef0_6, h⟩ := lt_e h
    refine a_put C0 inX0_charge_X0 tyX0 tyX0_ok nmX0 0 rfl rfl 8 (by decide) lkX0_charge_44 (fun _ h9 => h9) rfl (ty := .int) (v := .int (f0_4 7)) (by decide +kernel) rfl rfl (Nat.le_of_ble_eq_true rfl) dX0_charge_36 (wdX0_1 cA q0 q1 f0_6) (by subst ef0_6; rfl) ?_
    exact bwX0_charge_39 C0 a1 a2 f0_6 h
set_option maxRecDepth 100000 in
theorem ctX0_charge (l : Launch) (D : va_G) (cA : ClassId) (q0 q1 : Nat) (a1 : Int32) (a2 : Int32) (f0 : Nat → Int32) {res : (Nat → Int32)} (h : pX0_charge a1 a2 f0 = some res) : Ctv l yX0_charge wsX0_charge (rmX0_charge) D vwCl [(cA, .int)] [.ref q0, .int a1, .int a2] (wdX0_1 cA q0 q1 f0) (wdX0_1 cA q0 q1 res) 0 0 :=
  ct_n (S := Unit) (maxL := 3) (cc := cX0_charge) (by decide) rfl (Nat.le_of_ble_eq_true rfl) (fun p e s m below meth c _ C0 => bwX0_charge C0 a1 a2 f0 h)
/-! PackDrawer$Account.tightBound -/
abbrev rmX0_tightBound : Room := { frames := 0, cells := 0, slots := 0, locals := 0 }
theorem lkX0_tightBound_38 : Cond.fieldLink RX0 38 RX0 (TX0 6).2.1 (TX0 6).2.2.1 ∈ wsX0_tightBound := by decide +kernel
theorem inX0_tightBound_X0 : ∀ w ∈ u_ws RX0 TX0 12, w ∈ wsX0_tightBound := by decide +kernel
theorem lkX0_tightBound_31 : Cond.fieldLink RX0 31 RX0 (TX0 3).2.1 (TX0 3).2.2.1 ∈ wsX0_tightBound := by decide +kernel
theorem lkX0_tightBound_41 : Cond.fieldLink RX0 41 RX0 (TX0 7).2.1 (TX0 7).2.2.1 ∈ wsX0_tightBound := by decide +kernel
theorem lkX0_tightBound_28 : Cond.fieldLink RX0 28 RX0 (TX0 2).2.1 (TX0 2).2.2.1 ∈ wsX0_tightBound := by decide +kernel
def pX0_tightBound (f0 : Nat → Int32) : Option (Int32) := if (f0 6) < (f0 3) then if (f0 7) < (f0 2) then some (8 : Int32) else some (10 : Int32) else some (9 : Int32)
set_option maxHeartbeats 4000000 in
set_option maxRecDepth 100000 in
theorem bwX0_tightBound {p : Program} {l : Launch} {e : Env} {s : State} {m : MethodId} {args : Array Value} {below : List Frame} {meth : Method} {c : Code} {D : va_G} {A : Nat → Prop} {cA : ClassId} {q0 q1 : Nat} {res : Int32} (C0 : cx p s m args meth c cX0_tightBound 1 RX0 wsX0_tightBound (some .int) D vwCl [(cA, .int)] A) (f0 : Nat → Int32) (h : pX0_tightBound f0 = some res) : At_ p l e (rmX0_tightBound) s m args below meth c D vwCl A 1 0 0 (Qi_ below args s D vwCl A (wdX0_1 cA q0 q1 f0) res) 0 [(0, .ref q0)] [] (wdX0_1 cA q0 q1 f0) := by
  unfold pX0_tightBound at h
  refine a_aload_n C0 dX0_tightBound_0 rfl 0 rfl ?_
  refine a_get C0 inX0_tightBound_X0 0 rfl rfl 6 (by decide) lkX0_tightBound_38 (fun _ h9 => h9) (.int (f0 6)) rfl dX0_tightBound_1 ?_
  refine a_aload_n C0 dX0_tightBound_4 rfl 0 rfl ?_
  refine a_get C0 inX0_tightBound_X0 0 rfl rfl 3 (by decide) lkX0_tightBound_31 (fun _ h9 => h9) (.int (f0 3)) rfl dX0_tightBound_5 ?_
  refine a_icmp_lt C0 14 dX0_tightBound_8 (by decide) (fun c_1 => ?_) (fun c_1 => ?_)
  · have h := it_ c_1 h
    refine a_aload_n C0 dX0_tightBound_14 rfl 0 rfl ?_
    refine a_get C0 inX0_tightBound_X0 0 rfl rfl 7 (by decide) lkX0_tightBound_41 (fun _ h9 => h9) (.int (f0 7)) rfl dX0_tightBound_15 ?_
    refine a_aload_n C0 dX0_tightBound_18 rfl 0 rfl ?_
    refine a_get C0 inX0_tightBound_X0 0 rfl rfl 2 (by decide) lkX0_tightBound_28 (fun _ h9 => h9) (.int (f0 2)) rfl dX0_tightBound_19 ?_
    refine a_icmp_lt C0 30 dX0_tightBound_22 (by decide) (fun c_2 => ?_) (fun c_2 => ?_)
    · have h := it_ c_2 h
      refine a_bipush C0 (8 : Int32) dX0_tightBound_30 (by decide) ?_
      obtain rfl := Option.some.inj h
      exact a_iret C0 dX0_tightBound_32 rfl rfl
    · have h := ie_ c_2 h
      refine a_bipush C0 (10 : Int32) dX0_tightBound_25 (by decide) ?_
      refine a_goto C0 32 dX0_tightBound_27 (by decide) ?_
      obtain rfl := Option.some.inj h
      exact a_iret C0 dX0_tightBound_32 rfl rfl
  · have h := ie_ c_1 h
    refine a_bipush C0 (9 : Int32) dX0_tightBound_11 (by decide) ?_
    obtain rfl := Option.some.inj h
    exact a_iret C0 dX0_tightBound_13 rfl rfl
set_option maxRecDepth 100000 in
theorem ctX0_tightBound (l : Launch) (D : va_G) (cA : ClassId) (q0 q1 : Nat) (f0 : Nat → Int32) {res : Int32} (h : pX0_tightBound f0 = some res) : Cti l yX0_tightBound wsX0_tightBound (rmX0_tightBound) D vwCl [(cA, .int)] [.ref q0] (wdX0_1 cA q0 q1 f0) (wdX0_1 cA q0 q1 f0) 0 0 res :=
  ct_i (maxL := 1) (cc := cX0_tightBound) (by decide) rfl (Nat.le_of_ble_eq_true rfl) (fun p e s m below meth c C0 => bwX0_tightBound C0 f0 h)
/-! PackDrawer$Account.ask -/
theorem hdX0_charge : yX0_charge.cls = RX0 ∧ yX0_charge.cls ≠ "java/lang/invoke/MethodHandle" ∧ yX0_charge.cls ≠ "java/lang/invoke/VarHandle" ∧ (parseMethodDescriptor yX0_charge.desc).map (fun d => d.parameters.length) = some 2 := by decide +kernel
theorem hdX0_tightBound : yX0_tightBound.cls = RX0 ∧ yX0_tightBound.cls ≠ "java/lang/invoke/MethodHandle" ∧ yX0_tightBound.cls ≠ "java/lang/invoke/VarHandle" ∧ (parseMethodDescriptor yX0_tightBound.desc).map (fun d => d.parameters.length) = some 0 := by decide +kernel
abbrev rmX0_ask : Room := { frames := 1, cells := 0, slots := 0, locals := 22 }
theorem lkX0_ask_31 : Cond.fieldLink RX0 31 RX0 (TX0 3).2.1 (TX0 3).2.2.1 ∈ wsX0_ask := by decide +kernel
theorem inX0_ask_X0 : ∀ w ∈ u_ws RX0 TX0 12, w ∈ wsX0_ask := by decide +kernel
theorem lkX0_ask_38 : Cond.fieldLink RX0 38 RX0 (TX0 6).2.1 (TX0 6).2.2.1 ∈ wsX0_ask := by decide +kernel
theorem lkX0_ask_28 : Cond.fieldLink RX0 28 RX0 (TX0 2).2.1 (TX0 2).2.2.1 ∈ wsX0_ask := by decide +kernel
theorem lkX0_ask_41 : Cond.fieldLink RX0 41 RX0 (TX0 7).2.1 (TX0 7).2.2.1 ∈ wsX0_ask := by decide +kernel
theorem mkX0_ask_70 : Cond.methodLink RX0 70 Lib.Math.min.name ∈ wsX0_ask := by decide +kernel
theorem msX0_ask_min : Cond.static Lib.Math.min.name ∈ wsX0_ask := by decide +kernel
theorem miX0_ask : Cond.initialized "java/lang/Math" ∈ wsX0_ask := by decide +kernel
theorem mcX0_ask_min : Cond.code Lib.Math.min.name Lib.Math.min.code 2 (some .int) ∈ wsX0_ask := by decide +kernel
theorem lkX0_ask_25 : Cond.fieldLink RX0 25 RX0 (TX0 1).2.1 (TX0 1).2.2.1 ∈ wsX0_ask := by decide +kernel
theorem lkX0_ask_47 : Cond.fieldLink RX0 47 RX0 (TX0 9).2.1 (TX0 9).2.2.1 ∈ wsX0_ask := by decide +kernel
def bfX0_ask_47 (a1 : Int32) (a2 : Int32) (a3 : Int32) (v4 : Int32) (f0 : Nat → Int32) : Option (Int32 × (Nat → Int32)) := bd1 (pX0_charge v4 a3 f0) (fun f0_1 => if a1 ≤ v4 then some (v4, f0_1) else bd1 (pX0_tightBound f0_1) (fun r_4 => bd1 (pX0_fail r_4 a2 f0_1) (fun f0_6 => some (v4, f0_6))))
def pX0_ask (a1 : Int32) (a2 : Int32) (a3 : Int32) (f0 : Nat → Int32) : Option (Int32 × (Nat → Int32)) := lt_ ((if (if ((f0 2) - (f0 7)) < ((f0 3) - (f0 6)) then ((f0 2) - (f0 7)) else ((f0 3) - (f0 6))) < a1 then (if ((f0 2) - (f0 7)) < ((f0 3) - (f0 6)) then ((f0 2) - (f0 7)) else ((f0 3) - (f0 6))) else a1)) (fun x_8 => if a3 = 0 then bfX0_ask_47 a1 a2 a3 x_8 f0 else lt_ ((if ((f0 1) - (f0 9)) < x_8 then ((f0 1) - (f0 9)) else x_8)) (fun x_10 => bfX0_ask_47 a1 a2 a3 x_10 f0))
set_option maxHeartbeats 4000000 in
set_option maxRecDepth 100000 in
theorem bwX0_ask_47 {p : Program} {l : Launch} {e : Env} {s : State} {m : MethodId} {args : Array Value} {below : List Frame} {meth : Method} {c : Code} {D : va_G} {A : Nat → Prop} {cA : ClassId} {q0 q1 : Nat} {res : Int32 × (Nat → Int32)} (C0 : cx p s m args meth c cX0_ask 5 RX0 wsX0_ask (some .int) D vwCl [(cA, .int)] A) (a1 : Int32) (a2 : Int32) (a3 : Int32) (v4 : Int32) (f0 : Nat → Int32) (h : bfX0_ask_47 a1 a2 a3  v4 f0 = some res) : At_ p l e (rmX0_ask) s m args below meth c D vwCl A 5 0 0 (Qi_ below args s D vwCl A (wdX0_1 cA q0 q1 res.2) res.1) 47 [(0, .ref q0), (1, .int a1), (2, .int a2), (3, .int a3), (4, .int v4)] [] (wdX0_1 cA q0 q1 f0) := by
  unfold bfX0_ask_47 at h
  refine a_aload_n C0 dX0_ask_47 rfl 0 rfl ?_
  refine a_iload C0 dX0_ask_48 4 rfl ?_
  refine a_iload_n C0 dX0_ask_50 rfl 3 rfl ?_
  obtain ⟨f0_1, h_2, h⟩ := bd1_e h
  refine a_callVv C0 (wdX0_1 cA q0 q1 f0_1) (As := [.int v4, .int a3]) (rest := []) (ctX0_charge l D cA q0 q1 v4 a3 f0 h_2) (cwV 2 C0.1.2.2.2.2 gX0_ask_X0_charge rfl rfl rfl hdX0_charge ⟨Nat.le_of_ble_eq_true rfl, Nat.le_of_ble_eq_true rfl⟩) [0] [] [0] rfl rfl rfl rfl (by decide) rfl rfl rfl rfl rfl rfl (Nat.le_of_ble_eq_true rfl) dX0_ask_51 ⟨Nat.zero_le _, Nat.zero_le _⟩ ?_
  refine a_iload C0 dX0_ask_54 4 rfl ?_
  refine a_iload_n C0 dX0_ask_56 rfl 1 rfl ?_
  refine a_icmp_ge C0 69 dX0_ask_57 (by decide) (fun c_3 => ?_) (fun c_3 => ?_)
  · have h := it_ c_3 h
    refine a_iload C0 dX0_ask_69 4 rfl ?_
    obtain rfl := Option.some.inj h
    exact a_iret C0 dX0_ask_71 rfl rfl
  · have h := ie_ c_3 h
    refine a_aload_n C0 dX0_ask_60 rfl 0 rfl ?_
    refine a_aload_n C0 dX0_ask_61 rfl 0 rfl ?_
    obtain ⟨r_4, h_5, h⟩ := bd1_e h
    refine a_callVi C0 (wdX0_1 cA q0 q1 f0_1) (As := []) (rest := [.ref q0]) (ctX0_tightBound l D cA q0 q1 f0_1 h_5) (cwV 0 C0.1.2.2.2.2 gX0_ask_X0_tightBound rfl rfl rfl hdX0_tightBound ⟨Nat.le_of_ble_eq_true rfl, Nat.le_of_ble_eq_true rfl⟩) [0] [] [0] rfl rfl rfl rfl (by decide) rfl rfl rfl rfl rfl rfl (Nat.le_of_ble_eq_true rfl) dX0_ask_62 ⟨Nat.zero_le _, Nat.zero_le _⟩ ?_
    refine a_iload_n C0 dX0_ask_65 rfl 2 rfl ?_
    obtain ⟨f0_6, h_7, h⟩ := bd1_e h
    refine a_callVv C0 (wdX0_1 cA q0 q1 f0_6) (As := [.int r_4, .int a2]) (rest := []) (ctX0_fail l D cA q0 q1 r_4 a2 f0_1 h_7) (cwV 2 C0.1.2.2.2.2 gX0_ask_X0_fail rfl rfl rfl hdX0_fail ⟨Nat.le_of_ble_eq_true rfl, Nat.le_of_ble_eq_true rfl⟩) [0] [] [0] rfl rfl rfl rfl (by decide) rfl rfl rfl rfl rfl rfl (Nat.le_of_ble_eq_true rfl) dX0_ask_66 ⟨Nat.zero_le _, Nat.zero_le _⟩ ?_
    refine a_iload C0 dX0_ask_69 4 rfl ?_
    obtain rfl := Option.some.inj h
    exact a_iret C0 dX0_ask_71 rfl rfl
set_option maxHeartbeats 4000000 in
set_option maxRecDepth 100000 in
theorem bwX0_ask {p : Program} {l : Launch} {e : Env} {s : State} {m : MethodId} {args : Array Value} {below : List Frame} {meth : Method} {c : Code} {D : va_G} {A : Nat → Prop} {cA : ClassId} {q0 q1 : Nat} {res : Int32 × (Nat → Int32)} (C0 : cx p s m args meth c cX0_ask 5 RX0 wsX0_ask (some .int) D vwCl [(cA, .int)] A) (a1 : Int32) (a2 : Int32) (a3 : Int32) (f0 : Nat → Int32) (h : pX0_ask a1 a2 a3 f0 = some res) : At_ p l e (rmX0_ask) s m args below meth c D vwCl A 5 0 0 (Qi_ below args s D vwCl A (wdX0_1 cA q0 q1 res.2) res.1) 0 [(0, .ref q0), (1, .int a1), (2, .int a2), (3, .int a3)] [] (wdX0_1 cA q0 q1 f0) := by
  unfold pX0_ask at h
  refine a_iload_n C0 dX0_ask_0 rfl 1 rfl ?_
  refine a_aload_n C0 dX0_ask_1 rfl 0 rfl ?_
  refine a_get C0 inX0_ask_X0 0 rfl rfl 3 (by decide) lkX0_ask_31 (fun _ h9 => h9) (.int (f0 3)) rfl dX0_ask_2 ?_
  refine a_aload_n C0 dX0_ask_5 rfl 0 rfl ?_
  refine a_get C0 inX0_ask_X0 0 rfl rfl 6 (by decide) lkX0_ask_38 (fun _ h9 => h9) (.int (f0 6)) rfl dX0_ask_6 ?_
  refine a_isub C0 dX0_ask_9 ?_
  refine a_aload_n C0 dX0_ask_10 rfl 0 rfl ?_
  refine a_get C0 inX0_ask_X0 0 rfl rfl 2 (by decide) lkX0_ask_28 (fun _ h9 => h9) (.int (f0 2)) rfl dX0_ask_11 ?_
  refine a_aload_n C0 dX0_ask_14 rfl 0 rfl ?_
  refine a_get C0 inX0_ask_X0 0 rfl rfl 7 (by decide) lkX0_ask_41 (fun _ h9 => h9) (.int (f0 7)) rfl dX0_ask_15 ?_
  refine a_isub C0 dX0_ask_18 ?_
  refine a_mmin C0 mkX0_ask_70 msX0_ask_min miX0_ask mcX0_ask_min (Nat.le_of_ble_eq_true rfl) (Nat.le_of_ble_eq_true rfl) (Nat.zero_le _) (Nat.zero_le _) dX0_ask_19 ?_
  refine a_mmin C0 mkX0_ask_70 msX0_ask_min miX0_ask mcX0_ask_min (Nat.le_of_ble_eq_true rfl) (Nat.le_of_ble_eq_true rfl) (Nat.zero_le _) (Nat.zero_le _) dX0_ask_22 ?_
  obtain ⟨x_8, ex_8, h⟩ := lt_e h
  refine a_topi ex_8 ?_
  refine a_istore C0 [(4, .int x_8), (0, .ref q0), (1, .int a1), (2, .int a2), (3, .int a3)] dX0_ask_25 (by decide) rfl ?_
  refine a_iload_n C0 dX0_ask_27 rfl 4 rfl ?_
  refine a_if_eq C0 47 dX0_ask_28 (by decide) (fun c_9 => ?_) (fun c_9 => ?_)
  · have h := it_ c_9 h
    refine a_lv [1, 2, 3, 4, 0] (lv' := [(0, .ref q0), (1, .int a1), (2, .int a2), (3, .int a3), (4, .int x_8)]) rfl ?_
    exact bwX0_ask_47 C0 a1 a2 a3 x_8 f0 h
  · have h := ie_ c_9 h
    refine a_iload C0 dX0_ask_31 0 rfl ?_
    refine a_aload_n C0 dX0_ask_33 rfl 1 rfl ?_
    refine a_get C0 inX0_ask_X0 0 rfl rfl 1 (by decide) lkX0_ask_25 (fun _ h9 => h9) (.int (f0 1)) rfl dX0_ask_34 ?_
    refine a_aload_n C0 dX0_ask_37 rfl 1 rfl ?_
    refine a_get C0 inX0_ask_X0 0 rfl rfl 9 (by decide) lkX0_ask_47 (fun _ h9 => h9) (.int (f0 9)) rfl dX0_ask_38 ?_
    refine a_isub C0 dX0_ask_41 ?_
    refine a_mmin C0 mkX0_ask_70 msX0_ask_min miX0_ask mcX0_ask_min (Nat.le_of_ble_eq_true rfl) (Nat.le_of_ble_eq_true rfl) (Nat.zero_le _) (Nat.zero_le _) dX0_ask_42 ?_
    obtain ⟨x_10, ex_10, h⟩ := lt_e h
    refine a_topi ex_10 ?_
    refine a_istore C0 [(4, .int x_10), (0, .ref q0), (1, .int a1), (2, .int a2), (3, .int a3)] dX0_ask_45 (by decide) rfl ?_
    refine a_lv [1, 2, 3, 4, 0] (lv' := [(0, .ref q0), (1, .int a1), (2, .int a2), (3, .int a3), (4, .int x_10)]) rfl ?_
    exact bwX0_ask_47 C0 a1 a2 a3 x_10 f0 h
set_option maxRecDepth 100000 in
theorem ctX0_ask (l : Launch) (D : va_G) (cA : ClassId) (q0 q1 : Nat) (a1 : Int32) (a2 : Int32) (a3 : Int32) (f0 : Nat → Int32) {res : Int32 × (Nat → Int32)} (h : pX0_ask a1 a2 a3 f0 = some res) : Cti l yX0_ask wsX0_ask (rmX0_ask) D vwCl [(cA, .int)] [.ref q0, .int a1, .int a2, .int a3] (wdX0_1 cA q0 q1 f0) (wdX0_1 cA q0 q1 res.2) 0 0 res.1 :=
  ct_i (maxL := 5) (cc := cX0_ask) (by decide) rfl (Nat.le_of_ble_eq_true rfl) (fun p e s m below meth c C0 => bwX0_ask C0 a1 a2 a3 f0 h)
/-! PackDrawer$Account.give -/
abbrev wdX0_2 (cA : ClassId) (q0 q1 q2 : Nat) (f0 : Nat → Int32) (f1 : Nat → Int32) (f2 : Nat → Int32) : va_W := [(q0, .inr (0, [.ref q1, .int (f0 1), .int (f0 2), .int (f0 3), .int (f0 4), .int (f0 5), .int (f0 6), .int (f0 7), .int (f0 8), .int (f0 9), .int (f0 10), .int (f0 11)])), (q1, .inr (4, [.ref q2, .int (f1 1)])), (q2, .inl (cA, 800, .inl f2))]
abbrev rmX0_give : Room := { frames := 1, cells := 0, slots := 0, locals := 22 }
theorem lkX0_give_12 : Cond.fieldLink RX0 12 RX0 (TX0 0).2.1 (TX0 0).2.2.1 ∈ wsX0_give := by decide +kernel
theorem inX0_give_X0 : ∀ w ∈ u_ws RX0 TX0 12, w ∈ wsX0_give := by decide +kernel
theorem lkX0_give_18 : Cond.fieldLink RX0 18 RX0 (TX0 4).2.1 (TX0 4).2.2.1 ∈ wsX0_give := by decide +kernel
theorem lkX0_give_38 : Cond.fieldLink RX0 38 RX0 (TX0 6).2.1 (TX0 6).2.2.1 ∈ wsX0_give := by decide +kernel
theorem lkX0_give_31 : Cond.fieldLink RX0 31 RX0 (TX0 3).2.1 (TX0 3).2.2.1 ∈ wsX0_give := by decide +kernel
theorem lkX0_give_41 : Cond.fieldLink RX0 41 RX0 (TX0 7).2.1 (TX0 7).2.2.1 ∈ wsX0_give := by decide +kernel
theorem lkX0_give_28 : Cond.fieldLink RX0 28 RX0 (TX0 2).2.1 (TX0 2).2.2.1 ∈ wsX0_give := by decide +kernel
theorem lkX0_give_47 : Cond.fieldLink RX0 47 RX0 (TX0 9).2.1 (TX0 9).2.2.1 ∈ wsX0_give := by decide +kernel
theorem lkX0_give_25 : Cond.fieldLink RX0 25 RX0 (TX0 1).2.1 (TX0 1).2.2.1 ∈ wsX0_give := by decide +kernel
def bfX0_give_75 (a1 : Int32) (a2 : Int32) (a3 : Int32) (f0 : Nat → Int32) (f1 : Nat → Int32) (f2 : Nat → Int32) : Option ((Nat → Int32) × (Nat → Int32) × (Nat → Int32)) := bd1 (pX0_charge (1 : Int32) a3 f0) (fun f0_1 => bd2 (pX4_push a1 f1 f2) (fun f1_3 f2_4 => some (f0_1, f1_3, f2_4)))
def pX0_give (a1 : Int32) (a2 : Int32) (a3 : Int32) (f0 : Nat → Int32) (f1 : Nat → Int32) (f2 : Nat → Int32) : Option ((Nat → Int32) × (Nat → Int32) × (Nat → Int32)) := if (f0 4) = 0 then if (f0 6) < (f0 3) then if (f0 7) < (f0 2) then if a3 = 0 then bfX0_give_75 a1 a2 a3 f0 f1 f2 else if (f0 9) < (f0 1) then bfX0_give_75 a1 a2 a3 f0 f1 f2 else bd1 (pX0_fail (8 : Int32) a2 f0) (fun f0_11 => some (f0_11, f1, f2)) else bd1 (pX0_fail (10 : Int32) a2 f0) (fun f0_13 => some (f0_13, f1, f2)) else bd1 (pX0_fail (9 : Int32) a2 f0) (fun f0_15 => some (f0_15, f1, f2)) else some (f0, f1, f2)
set_option maxHeartbeats 4000000 in
set_option maxRecDepth 100000 in
theorem bwX0_give_75 {p : Program} {l : Launch} {e : Env} {s : State} {m : MethodId} {args : Array Value} {below : List Frame} {meth : Method} {c : Code} {D : va_G} {A : Nat → Prop} {cA : ClassId} {q0 q1 q2 : Nat} {res : (Nat → Int32) × (Nat → Int32) × (Nat → Int32)} (C0 : cx p s m args meth c cX0_give 4 RX0 wsX0_give none D vwCl [(cA, .int)] A) (a1 : Int32) (a2 : Int32) (a3 : Int32) (f0 : Nat → Int32) (f1 : Nat → Int32) (f2 : Nat → Int32) (h : bfX0_give_75 a1 a2 a3  f0 f1 f2 = some res) : At_ p l e (rmX0_give) s m args below meth c D vwCl A 4 0 0 (Qv_ below args s D vwCl A (wdX0_2 cA q0 q1 q2 res.1 res.2.1 res.2.2)) 75 [(0, .ref q0), (1, .int a1), (2, .int a2), (3, .int a3)] [] (wdX0_2 cA q0 q1 q2 f0 f1 f2) := by
  unfold bfX0_give_75 at h
  refine a_aload_n C0 dX0_give_75 rfl 0 rfl ?_
  refine a_iconst C0 (1 : Int32) dX0_give_76 (by decide) ?_
  refine a_iload_n C0 dX0_give_77 rfl 3 rfl ?_
  obtain ⟨f0_1, h_2, h⟩ := bd1_e h
  refine a_callVv C0 (wdX0_2 cA q0 q1 q2 f0_1 f1 f2) (As := [.int (1 : Int32), .int a3]) (rest := []) (ctX0_charge l D cA q0 q1 (1 : Int32) a3 f0 h_2) (cwV 2 C0.1.2.2.2.2 gX0_give_X0_charge rfl rfl rfl hdX0_charge ⟨Nat.le_of_ble_eq_true rfl, Nat.le_of_ble_eq_true rfl⟩) [0] [1, 2] [2, 0, 1] rfl rfl rfl rfl (by decide) rfl rfl rfl rfl rfl rfl (Nat.le_of_ble_eq_true rfl) dX0_give_78 ⟨Nat.zero_le _, Nat.zero_le _⟩ ?_
  refine a_aload_n C0 dX0_give_81 rfl 0 rfl ?_
  refine a_get C0 inX0_give_X0 0 rfl rfl 0 (by decide) lkX0_give_12 (fun _ h9 => h9) (.ref q1) rfl dX0_give_82 ?_
  refine a_iload_n C0 dX0_give_85 rfl 1 rfl ?_
  obtain ⟨f1_3, f2_4, h_5, h⟩ := bd2_e h
  refine a_callVv C0 (wdX0_2 cA q0 q1 q2 f0_1 f1_3 f2_4) (As := [.int a1]) (rest := []) (ctX4_push l D cA q1 q2 a1 f1 f2 h_5) (cwV 1 C0.1.2.2.2.2 gX0_give_X4_push rfl rfl rfl hdX4_push ⟨Nat.le_of_ble_eq_true rfl, Nat.le_of_ble_eq_true rfl⟩) [1, 2] [0] [0, 1, 2] rfl rfl rfl rfl (by decide) rfl rfl rfl rfl rfl rfl (Nat.le_of_ble_eq_true rfl) dX0_give_86 ⟨Nat.zero_le _, Nat.zero_le _⟩ ?_
  obtain rfl := Option.some.inj h
  exact a_vret C0 dX0_give_89 rfl
set_option maxHeartbeats 4000000 in
set_option maxRecDepth 100000 in
theorem bwX0_give {p : Program} {l : Launch} {e : Env} {s : State} {m : MethodId} {args : Array Value} {below : List Frame} {meth : Method} {c : Code} {D : va_G} {A : Nat → Prop} {cA : ClassId} {q0 q1 q2 : Nat} {res : (Nat → Int32) × (Nat → Int32) × (Nat → Int32)} (C0 : cx p s m args meth c cX0_give 4 RX0 wsX0_give none D vwCl [(cA, .int)] A) (a1 : Int32) (a2 : Int32) (a3 : Int32) (f0 : Nat → Int32) (f1 : Nat → Int32) (f2 : Nat → Int32) (h : pX0_give a1 a2 a3 f0 f1 f2 = some res) : At_ p l e (rmX0_give) s m args below meth c D vwCl A 4 0 0 (Qv_ below args s D vwCl A (wdX0_2 cA q0 q1 q2 res.1 res.2.1 res.2.2)) 0 [(0, .ref q0), (1, .int a1), (2, .int a2), (3, .int a3)] [] (wdX0_2 cA q0 q1 q2 f0 f1 f2) := by
  unfold pX0_give at h
  refine a_aload_n C0 dX0_give_0 rfl 0 rfl ?_
  refine a_get C0 inX0_give_X0 0 rfl rfl 4 (by decide) lkX0_give_18 (fun _ h9 => h9) (.int (f0 4)) rfl dX0_give_1 ?_
  refine a_if_eq C0 8 dX0_give_4 (by decide) (fun c_6 => ?_) (fun c_6 => ?_)
  · have h := it_ c_6 h
    refine a_aload_n C0 dX0_give_8 rfl 0 rfl ?_
    refine a_get C0 inX0_give_X0 0 rfl rfl 6 (by decide) lkX0_give_38 (fun _ h9 => h9) (.int (f0 6)) rfl dX0_give_9 ?_
    refine a_aload_n C0 dX0_give_12 rfl 0 rfl ?_
    refine a_get C0 inX0_give_X0 0 rfl rfl 3 (by decide) lkX0_give_31 (fun _ h9 => h9) (.int (f0 3)) rfl dX0_give_13 ?_
    refine a_icmp_lt C0 29 dX0_give_16 (by decide) (fun c_7 => ?_) (fun c_7 => ?_)
    · have h := it_ c_7 h
      refine a_aload_n C0 dX0_give_29 rfl 0 rfl ?_
      refine a_get C0 inX0_give_X0 0 rfl rfl 7 (by decide) lkX0_give_41 (fun _ h9 => h9) (.int (f0 7)) rfl dX0_give_30 ?_
      refine a_aload_n C0 dX0_give_33 rfl 0 rfl ?_
      refine a_get C0 inX0_give_X0 0 rfl rfl 2 (by decide) lkX0_give_28 (fun _ h9 => h9) (.int (f0 2)) rfl dX0_give_34 ?_
      refine a_icmp_lt C0 50 dX0_give_37 (by decide) (fun c_8 => ?_) (fun c_8 => ?_)
      · have h := it_ c_8 h
        refine a_iload_n C0 dX0_give_50 rfl 3 rfl ?_
        refine a_if_eq C0 75 dX0_give_51 (by decide) (fun c_9 => ?_) (fun c_9 => ?_)
        · have h := it_ c_9 h
          exact bwX0_give_75 C0 a1 a2 a3 f0 f1 f2 h
        · have h := ie_ c_9 h
          refine a_aload_n C0 dX0_give_54 rfl 0 rfl ?_
          refine a_get C0 inX0_give_X0 0 rfl rfl 9 (by decide) lkX0_give_47 (fun _ h9 => h9) (.int (f0 9)) rfl dX0_give_55 ?_
          refine a_aload_n C0 dX0_give_58 rfl 0 rfl ?_
          refine a_get C0 inX0_give_X0 0 rfl rfl 1 (by decide) lkX0_give_25 (fun _ h9 => h9) (.int (f0 1)) rfl dX0_give_59 ?_
          refine a_icmp_lt C0 75 dX0_give_62 (by decide) (fun c_10 => ?_) (fun c_10 => ?_)
          · have h := it_ c_10 h
            exact bwX0_give_75 C0 a1 a2 a3 f0 f1 f2 h
          · have h := ie_ c_10 h
            refine a_aload_n C0 dX0_give_65 rfl 0 rfl ?_
            refine a_bipush C0 (8 : Int32) dX0_give_66 (by decide) ?_
            refine a_iload_n C0 dX0_give_68 rfl 2 rfl ?_
            obtain ⟨f0_11, h_12, h⟩ := bd1_e h
            refine a_callVv C0 (wdX0_2 cA q0 q1 q2 f0_11 f1 f2) (As := [.int (8 : Int32), .int a2]) (rest := []) (ctX0_fail l D cA q0 q1 (8 : Int32) a2 f0 h_12) (cwV 2 C0.1.2.2.2.2 gX0_give_X0_fail rfl rfl rfl hdX0_fail ⟨Nat.le_of_ble_eq_true rfl, Nat.le_of_ble_eq_true rfl⟩) [0] [1, 2] [2, 0, 1] rfl rfl rfl rfl (by decide) rfl rfl rfl rfl rfl rfl (Nat.le_of_ble_eq_true rfl) dX0_give_69 ⟨Nat.zero_le _, Nat.zero_le _⟩ ?_
            refine a_goto C0 89 dX0_give_72 (by decide) ?_
            obtain rfl := Option.some.inj h
            exact a_vret C0 dX0_give_89 rfl
      · have h := ie_ c_8 h
        refine a_aload_n C0 dX0_give_40 rfl 0 rfl ?_
        refine a_bipush C0 (10 : Int32) dX0_give_41 (by decide) ?_
        refine a_iload_n C0 dX0_give_43 rfl 2 rfl ?_
        obtain ⟨f0_13, h_14, h⟩ := bd1_e h
        refine a_callVv C0 (wdX0_2 cA q0 q1 q2 f0_13 f1 f2) (As := [.int (10 : Int32), .int a2]) (rest := []) (ctX0_fail l D cA q0 q1 (10 : Int32) a2 f0 h_14) (cwV 2 C0.1.2.2.2.2 gX0_give_X0_fail rfl rfl rfl hdX0_fail ⟨Nat.le_of_ble_eq_true rfl, Nat.le_of_ble_eq_true rfl⟩) [0] [1, 2] [2, 0, 1] rfl rfl rfl rfl (by decide) rfl rfl rfl rfl rfl rfl (Nat.le_of_ble_eq_true rfl) dX0_give_44 ⟨Nat.zero_le _, Nat.zero_le _⟩ ?_
        refine a_goto C0 89 dX0_give_47 (by decide) ?_
        obtain rfl := Option.some.inj h
        exact a_vret C0 dX0_give_89 rfl
    · have h := ie_ c_7 h
      refine a_aload_n C0 dX0_give_19 rfl 0 rfl ?_
      refine a_bipush C0 (9 : Int32) dX0_give_20 (by decide) ?_
      refine a_iload_n C0 dX0_give_22 rfl 2 rfl ?_
      obtain ⟨f0_15, h_16, h⟩ := bd1_e h
      refine a_callVv C0 (wdX0_2 cA q0 q1 q2 f0_15 f1 f2) (As := [.int (9 : Int32), .int a2]) (rest := []) (ctX0_fail l D cA q0 q1 (9 : Int32) a2 f0 h_16) (cwV 2 C0.1.2.2.2.2 gX0_give_X0_fail rfl rfl rfl hdX0_fail ⟨Nat.le_of_ble_eq_true rfl, Nat.le_of_ble_eq_true rfl⟩) [0] [1, 2] [2, 0, 1] rfl rfl rfl rfl (by decide) rfl rfl rfl rfl rfl rfl (Nat.le_of_ble_eq_true rfl) dX0_give_23 ⟨Nat.zero_le _, Nat.zero_le _⟩ ?_
      refine a_goto C0 89 dX0_give_26 (by decide) ?_
      obtain rfl := Option.some.inj h
      exact a_vret C0 dX0_give_89 rfl
  · have h := ie_ c_6 h
    obtain rfl := Option.some.inj h
    exact a_vret C0 dX0_give_7 rfl
set_option maxRecDepth 100000 in
theorem ctX0_give (l : Launch) (D : va_G) (cA : ClassId) (q0 q1 q2 : Nat) (a1 : Int32) (a2 : Int32) (a3 : Int32) (f0 : Nat → Int32) (f1 : Nat → Int32) (f2 : Nat → Int32) {res : (Nat → Int32) × (Nat → Int32) × (Nat → Int32)} (h : pX0_give a1 a2 a3 f0 f1 f2 = some res) : Ctv l yX0_give wsX0_give (rmX0_give) D vwCl [(cA, .int)] [.ref q0, .int a1, .int a2, .int a3] (wdX0_2 cA q0 q1 q2 f0 f1 f2) (wdX0_2 cA q0 q1 q2 res.1 res.2.1 res.2.2) 0 0 :=
  ct_n (S := Unit) (maxL := 4) (cc := cX0_give) (by decide) rfl (Nat.le_of_ble_eq_true rfl) (fun p e s m below meth c _ C0 => bwX0_give C0 a1 a2 a3 f0 f1 f2 h)
/-! PackDrawer$Account.release -/
abbrev rmX0_release : Room := { frames := 0, cells := 0, slots := 0, locals := 0 }
theorem lkX0_release_41 : Cond.fieldLink RX0 41 RX0 (TX0 7).2.1 (TX0 7).2.2.1 ∈ wsX0_release := by decide +kernel
theorem inX0_release_X0 : ∀ w ∈ u_ws RX0 TX0 12, w ∈ wsX0_release := by decide +kernel
def pX0_release (a1 : Int32) (f0 : Nat → Int32) : Option ((Nat → Int32)) := lt_ (upd f0 7 ((f0 7) - a1)) (fun f0_1 => some f0_1)
set_option maxHeartbeats 4000000 in
set_option maxRecDepth 100000 in
theorem bwX0_release {p : Program} {l : Launch} {e : Env} {s : State} {m : MethodId} {args : Array Value} {below : List Frame} {meth : Method} {c : Code} {D : va_G} {A : Nat → Prop} {cA : ClassId} {q0 q1 : Nat} {res : (Nat → Int32)} (C0 : cx p s m args meth c cX0_release 2 RX0 wsX0_release none D vwCl [(cA, .int)] A) (a1 : Int32) (f0 : Nat → Int32) (h : pX0_release a1 f0 = some res) : At_ p l e (rmX0_release) s m args below meth c D vwCl A 2 0 0 (Qv_ below args s D vwCl A (wdX0_1 cA q0 q1 res)) 0 [(0, .ref q0), (1, .int a1)] [] (wdX0_1 cA q0 q1 f0) := by
  unfold pX0_release at h
  refine a_aload_n C0 dX0_release_0 rfl 0 rfl ?_
  refine a_dup C0 dX0_release_1 rfl ?_
  refine a_get C0 inX0_release_X0 0 rfl rfl 7 (by decide) lkX0_release_41 (fun _ h9 => h9) (.int (f0 7)) rfl dX0_release_2 ?_
  refine a_iload_n C0 dX0_release_5 rfl 1 rfl ?_
  refine a_isub C0 dX0_release_6 ?_
  obtain ⟨f0_1, ef0_1, h⟩ := lt_e h
  refine a_put C0 inX0_release_X0 tyX0 tyX0_ok nmX0 0 rfl rfl 7 (by decide) lkX0_release_41 (fun _ h9 => h9) rfl (ty := .int) (v := .int ((f0 7) - a1)) (by decide +kernel) rfl rfl (Nat.le_of_ble_eq_true rfl) dX0_release_7 (wdX0_1 cA q0 q1 f0_1) (by subst ef0_1; rfl) ?_
  obtain rfl := Option.some.inj h
  exact a_vret C0 dX0_release_10 rfl
set_option maxRecDepth 100000 in
theorem ctX0_release (l : Launch) (D : va_G) (cA : ClassId) (q0 q1 : Nat) (a1 : Int32) (f0 : Nat → Int32) {res : (Nat → Int32)} (h : pX0_release a1 f0 = some res) : Ctv l yX0_release wsX0_release (rmX0_release) D vwCl [(cA, .int)] [.ref q0, .int a1] (wdX0_1 cA q0 q1 f0) (wdX0_1 cA q0 q1 res) 0 0 :=
  ct_n (S := Unit) (maxL := 2) (cc := cX0_release) (by decide) rfl (Nat.le_of_ble_eq_true rfl) (fun p e s m below meth c _ C0 => bwX0_release C0 a1 f0 h)
/-! PackDrawer.sortOf -/
abbrev wdX6_0 (cA : ClassId) : va_W := []
abbrev rmX6_sortOf : Room := { frames := 0, cells := 0, slots := 0, locals := 0 }
def pX6_sortOf (a0 : Int32) : Option (Int32) := if a0 = 0 then some (0 : Int32) else if (64 : Int32) ≤ a0 then if (128 : Int32) ≤ a0 then if (192 : Int32) ≤ a0 then if (255 : Int32) ≤ a0 then some (5 : Int32) else some (4 : Int32) else some (3 : Int32) else some (2 : Int32) else some (1 : Int32)
set_option maxHeartbeats 4000000 in
set_option maxRecDepth 100000 in
theorem bwX6_sortOf {p : Program} {l : Launch} {e : Env} {s : State} {m : MethodId} {args : Array Value} {below : List Frame} {meth : Method} {c : Code} {D : va_G} {A : Nat → Prop} {cA : ClassId} {res : Int32} (C0 : cx p s m args meth c cX6_sortOf 1 RX6 wsX6_sortOf (some .int) D vwCl [(cA, .int)] A) (a0 : Int32) (h : pX6_sortOf a0 = some res) : At_ p l e (rmX6_sortOf) s m args below meth c D vwCl A 1 0 0 (Qi_ below args s D vwCl A (wdX6_0 cA) res) 0 [(0, .int a0)] [] (wdX6_0 cA) := by
  unfold pX6_sortOf at h
  refine a_iload_n C0 dX6_sortOf_0 rfl 0 rfl ?_
  refine a_if_ne C0 6 dX6_sortOf_1 (by decide) (fun c_1 => ?_) (fun c_1 => ?_)
  · have h := ie_ c_1 h
    refine a_iload_n C0 dX6_sortOf_6 rfl 0 rfl ?_
    refine a_bipush C0 (64 : Int32) dX6_sortOf_7 (by decide) ?_
    refine a_icmp_ge C0 14 dX6_sortOf_9 (by decide) (fun c_2 => ?_) (fun c_2 => ?_)
    · have h := it_ c_2 h
      refine a_iload_n C0 dX6_sortOf_14 rfl 0 rfl ?_
      refine a_sipush C0 (128 : Int32) dX6_sortOf_15 (by decide) ?_
      refine a_icmp_ge C0 23 dX6_sortOf_18 (by decide) (fun c_3 => ?_) (fun c_3 => ?_)
      · have h := it_ c_3 h
        refine a_iload_n C0 dX6_sortOf_23 rfl 0 rfl ?_
        refine a_sipush C0 (192 : Int32) dX6_sortOf_24 (by decide) ?_
        refine a_icmp_ge C0 32 dX6_sortOf_27 (by decide) (fun c_4 => ?_) (fun c_4 => ?_)
        · have h := it_ c_4 h
          refine a_iload_n C0 dX6_sortOf_32 rfl 0 rfl ?_
          refine a_sipush C0 (255 : Int32) dX6_sortOf_33 (by decide) ?_
          refine a_icmp_ge C0 43 dX6_sortOf_36 (by decide) (fun c_5 => ?_) (fun c_5 => ?_)
          · have h := it_ c_5 h
            refine a_iconst C0 (5 : Int32) dX6_sortOf_43 (by decide) ?_
            obtain rfl := Option.some.inj h
            exact a_iret C0 dX6_sortOf_44 rfl rfl
          · have h := ie_ c_5 h
            refine a_iconst C0 (4 : Int32) dX6_sortOf_39 (by decide) ?_
            refine a_goto C0 44 dX6_sortOf_40 (by decide) ?_
            obtain rfl := Option.some.inj h
            exact a_iret C0 dX6_sortOf_44 rfl rfl
        · have h := ie_ c_4 h
          refine a_iconst C0 (3 : Int32) dX6_sortOf_30 (by decide) ?_
          obtain rfl := Option.some.inj h
          exact a_iret C0 dX6_sortOf_31 rfl rfl
      · have h := ie_ c_3 h
        refine a_iconst C0 (2 : Int32) dX6_sortOf_21 (by decide) ?_
        obtain rfl := Option.some.inj h
        exact a_iret C0 dX6_sortOf_22 rfl rfl
    · have h := ie_ c_2 h
      refine a_iconst C0 (1 : Int32) dX6_sortOf_12 (by decide) ?_
      obtain rfl := Option.some.inj h
      exact a_iret C0 dX6_sortOf_13 rfl rfl
  · have h := it_ c_1 h
    refine a_iconst C0 (0 : Int32) dX6_sortOf_4 (by decide) ?_
    obtain rfl := Option.some.inj h
    exact a_iret C0 dX6_sortOf_5 rfl rfl
set_option maxRecDepth 100000 in
theorem ctX6_sortOf (l : Launch) (D : va_G) (cA : ClassId) (a0 : Int32) {res : Int32} (h : pX6_sortOf a0 = some res) : Cti l yX6_sortOf wsX6_sortOf (rmX6_sortOf) D vwCl [(cA, .int)] [.int a0] (wdX6_0 cA) (wdX6_0 cA) 0 0 res :=
  ct_i (maxL := 1) (cc := cX6_sortOf) (by decide) rfl (Nat.le_of_ble_eq_true rfl) (fun p e s m below meth c C0 => bwX6_sortOf C0 a0 h)
/-! PackDrawer.timesMore -/
abbrev rmX6_timesMore : Room := { frames := 0, cells := 0, slots := 0, locals := 0 }
def pX6_timesMore (a0 : Int32) : Option (Int32) := some (((a0 - (128 : Int32)) + (2 : Int32)) - (1 : Int32))
set_option maxHeartbeats 4000000 in
set_option maxRecDepth 100000 in
theorem bwX6_timesMore {p : Program} {l : Launch} {e : Env} {s : State} {m : MethodId} {args : Array Value} {below : List Frame} {meth : Method} {c : Code} {D : va_G} {A : Nat → Prop} {cA : ClassId} {res : Int32} (C0 : cx p s m args meth c cX6_timesMore 1 RX6 wsX6_timesMore (some .int) D vwCl [(cA, .int)] A) (a0 : Int32) (h : pX6_timesMore a0 = some res) : At_ p l e (rmX6_timesMore) s m args below meth c D vwCl A 1 0 0 (Qi_ below args s D vwCl A (wdX6_0 cA) res) 0 [(0, .int a0)] [] (wdX6_0 cA) := by
  unfold pX6_timesMore at h
  refine a_iload_n C0 dX6_timesMore_0 rfl 0 rfl ?_
  refine a_sipush C0 (128 : Int32) dX6_timesMore_1 (by decide) ?_
  refine a_isub C0 dX6_timesMore_4 ?_
  refine a_iconst C0 (2 : Int32) dX6_timesMore_5 (by decide) ?_
  refine a_iadd C0 dX6_timesMore_6 ?_
  refine a_iconst C0 (1 : Int32) dX6_timesMore_7 (by decide) ?_
  refine a_isub C0 dX6_timesMore_8 ?_
  obtain rfl := Option.some.inj h
  exact a_iret C0 dX6_timesMore_9 rfl rfl
set_option maxRecDepth 100000 in
theorem ctX6_timesMore (l : Launch) (D : va_G) (cA : ClassId) (a0 : Int32) {res : Int32} (h : pX6_timesMore a0 = some res) : Cti l yX6_timesMore wsX6_timesMore (rmX6_timesMore) D vwCl [(cA, .int)] [.int a0] (wdX6_0 cA) (wdX6_0 cA) 0 0 res :=
  ct_i (maxL := 1) (cc := cX6_timesMore) (by decide) rfl (Nat.le_of_ble_eq_true rfl) (fun p e s m below meth c C0 => bwX6_timesMore C0 a0 h)
/-! PackDrawer.copyCount -/
abbrev rmX6_copyCount : Room := { frames := 0, cells := 0, slots := 0, locals := 0 }
def pX6_copyCount (a0 : Int32) : Option (Int32) := some ((a0 - (64 : Int32)) + (2 : Int32))
set_option maxHeartbeats 4000000 in
set_option maxRecDepth 100000 in
theorem bwX6_copyCount {p : Program} {l : Launch} {e : Env} {s : State} {m : MethodId} {args : Array Value} {below : List Frame} {meth : Method} {c : Code} {D : va_G} {A : Nat → Prop} {cA : ClassId} {res : Int32} (C0 : cx p s m args meth c cX6_copyCount 1 RX6 wsX6_copyCount (some .int) D vwCl [(cA, .int)] A) (a0 : Int32) (h : pX6_copyCount a0 = some res) : At_ p l e (rmX6_copyCount) s m args below meth c D vwCl A 1 0 0 (Qi_ below args s D vwCl A (wdX6_0 cA) res) 0 [(0, .int a0)] [] (wdX6_0 cA) := by
  unfold pX6_copyCount at h
  refine a_iload_n C0 dX6_copyCount_0 rfl 0 rfl ?_
  refine a_bipush C0 (64 : Int32) dX6_copyCount_1 (by decide) ?_
  refine a_isub C0 dX6_copyCount_3 ?_
  refine a_iconst C0 (2 : Int32) dX6_copyCount_4 (by decide) ?_
  refine a_iadd C0 dX6_copyCount_5 ?_
  obtain rfl := Option.some.inj h
  exact a_iret C0 dX6_copyCount_6 rfl rfl
set_option maxRecDepth 100000 in
theorem ctX6_copyCount (l : Launch) (D : va_G) (cA : ClassId) (a0 : Int32) {res : Int32} (h : pX6_copyCount a0 = some res) : Cti l yX6_copyCount wsX6_copyCount (rmX6_copyCount) D vwCl [(cA, .int)] [.int a0] (wdX6_0 cA) (wdX6_0 cA) 0 0 res :=
  ct_i (maxL := 1) (cc := cX6_copyCount) (by decide) rfl (Nat.le_of_ble_eq_true rfl) (fun p e s m below meth c C0 => bwX6_copyCount C0 a0 h)
/-! PackDrawer.isByte -/
abbrev rmX6_isByte : Room := { frames := 0, cells := 0, slots := 0, locals := 0 }
def pX6_isByte (a0 : Int32) : Option (Int32) := if a0 < 0 then some (0 : Int32) else if (255 : Int32) < a0 then some (0 : Int32) else some (1 : Int32)
set_option maxHeartbeats 4000000 in
set_option maxRecDepth 100000 in
theorem bwX6_isByte {p : Program} {l : Launch} {e : Env} {s : State} {m : MethodId} {args : Array Value} {below : List Frame} {meth : Method} {c : Code} {D : va_G} {A : Nat → Prop} {cA : ClassId} {res : Int32} (C0 : cx p s m args meth c cX6_isByte 1 RX6 wsX6_isByte (some .boolean) D vwCl [(cA, .int)] A) (a0 : Int32) (h : pX6_isByte a0 = some res) : At_ p l e (rmX6_isByte) s m args below meth c D vwCl A 1 0 0 (Qi_ below args s D vwCl A (wdX6_0 cA) res) 0 [(0, .int a0)] [] (wdX6_0 cA) := by
  unfold pX6_isByte at h
  refine a_iload_n C0 dX6_isByte_0 rfl 0 rfl ?_
  refine a_if_lt C0 15 dX6_isByte_1 (by decide) (fun c_1 => ?_) (fun c_1 => ?_)
  · have h := it_ c_1 h
    refine a_iconst C0 (0 : Int32) dX6_isByte_15 (by decide) ?_
    obtain rfl := Option.some.inj h
    exact a_zret C0 dX6_isByte_16 rfl rfl rfl
  · have h := ie_ c_1 h
    refine a_iload_n C0 dX6_isByte_4 rfl 0 rfl ?_
    refine a_sipush C0 (255 : Int32) dX6_isByte_5 (by decide) ?_
    refine a_icmp_gt C0 15 dX6_isByte_8 (by decide) (fun c_2 => ?_) (fun c_2 => ?_)
    · have h := it_ c_2 h
      refine a_iconst C0 (0 : Int32) dX6_isByte_15 (by decide) ?_
      obtain rfl := Option.some.inj h
      exact a_zret C0 dX6_isByte_16 rfl rfl rfl
    · have h := ie_ c_2 h
      refine a_iconst C0 (1 : Int32) dX6_isByte_11 (by decide) ?_
      refine a_goto C0 16 dX6_isByte_12 (by decide) ?_
      obtain rfl := Option.some.inj h
      exact a_zret C0 dX6_isByte_16 rfl rfl rfl
set_option maxRecDepth 100000 in
theorem ctX6_isByte (l : Launch) (D : va_G) (cA : ClassId) (a0 : Int32) {res : Int32} (h : pX6_isByte a0 = some res) : Cti l yX6_isByte wsX6_isByte (rmX6_isByte) D vwCl [(cA, .int)] [.int a0] (wdX6_0 cA) (wdX6_0 cA) 0 0 res :=
  ct_i (maxL := 1) (cc := cX6_isByte) (by decide) rfl (Nat.le_of_ble_eq_true rfl) (fun p e s m below meth c C0 => bwX6_isByte C0 a0 h)
/-! PackDrawer.bombLength -/
abbrev rmX6_bombLength : Room := { frames := 0, cells := 0, slots := 0, locals := 0 }
def pX6_bombLength (a0 : Int32) : Option (Int32) := some ((4 : Int32) + ((5 : Int32) * a0))
set_option maxHeartbeats 4000000 in
set_option maxRecDepth 100000 in
theorem bwX6_bombLength {p : Program} {l : Launch} {e : Env} {s : State} {m : MethodId} {args : Array Value} {below : List Frame} {meth : Method} {c : Code} {D : va_G} {A : Nat → Prop} {cA : ClassId} {res : Int32} (C0 : cx p s m args meth c cX6_bombLength 1 RX6 wsX6_bombLength (some .int) D vwCl [(cA, .int)] A) (a0 : Int32) (h : pX6_bombLength a0 = some res) : At_ p l e (rmX6_bombLength) s m args below meth c D vwCl A 1 0 0 (Qi_ below args s D vwCl A (wdX6_0 cA) res) 0 [(0, .int a0)] [] (wdX6_0 cA) := by
  unfold pX6_bombLength at h
  refine a_iconst C0 (4 : Int32) dX6_bombLength_0 (by decide) ?_
  refine a_iconst C0 (5 : Int32) dX6_bombLength_1 (by decide) ?_
  refine a_iload_n C0 dX6_bombLength_2 rfl 0 rfl ?_
  refine a_imul C0 dX6_bombLength_3 ?_
  refine a_iadd C0 dX6_bombLength_4 ?_
  obtain rfl := Option.some.inj h
  exact a_iret C0 dX6_bombLength_5 rfl rfl
set_option maxRecDepth 100000 in
theorem ctX6_bombLength (l : Launch) (D : va_G) (cA : ClassId) (a0 : Int32) {res : Int32} (h : pX6_bombLength a0 = some res) : Cti l yX6_bombLength wsX6_bombLength (rmX6_bombLength) D vwCl [(cA, .int)] [.int a0] (wdX6_0 cA) (wdX6_0 cA) 0 0 res :=
  ct_i (maxL := 1) (cc := cX6_bombLength) (by decide) rfl (Nat.le_of_ble_eq_true rfl) (fun p e s m below meth c C0 => bwX6_bombLength C0 a0 h)
/-! PackDrawer.areBounds -/
abbrev rmX6_areBounds : Room := { frames := 0, cells := 0, slots := 0, locals := 0 }
def pX6_areBounds (a0 : Int32) (a1 : Int32) (a2 : Int32) : Option (Int32) := if a0 < 0 then some (0 : Int32) else if (400 : Int32) < a0 then some (0 : Int32) else if a1 < 0 then some (0 : Int32) else if (800 : Int32) < a1 then some (0 : Int32) else if a2 < 0 then some (0 : Int32) else if (1500 : Int32) < a2 then some (0 : Int32) else some (1 : Int32)
set_option maxHeartbeats 4000000 in
set_option maxRecDepth 100000 in
theorem bwX6_areBounds {p : Program} {l : Launch} {e : Env} {s : State} {m : MethodId} {args : Array Value} {below : List Frame} {meth : Method} {c : Code} {D : va_G} {A : Nat → Prop} {cA : ClassId} {res : Int32} (C0 : cx p s m args meth c cX6_areBounds 3 RX6 wsX6_areBounds (some .boolean) D vwCl [(cA, .int)] A) (a0 : Int32) (a1 : Int32) (a2 : Int32) (h : pX6_areBounds a0 a1 a2 = some res) : At_ p l e (rmX6_areBounds) s m args below meth c D vwCl A 3 0 0 (Qi_ below args s D vwCl A (wdX6_0 cA) res) 0 [(0, .int a0), (1, .int a1), (2, .int a2)] [] (wdX6_0 cA) := by
  unfold pX6_areBounds at h
  refine a_iload_n C0 dX6_areBounds_0 rfl 0 rfl ?_
  refine a_if_lt C0 37 dX6_areBounds_1 (by decide) (fun c_1 => ?_) (fun c_1 => ?_)
  · have h := it_ c_1 h
    refine a_iconst C0 (0 : Int32) dX6_areBounds_37 (by decide) ?_
    obtain rfl := Option.some.inj h
    exact a_zret C0 dX6_areBounds_38 rfl rfl rfl
  · have h := ie_ c_1 h
    refine a_iload_n C0 dX6_areBounds_4 rfl 0 rfl ?_
    refine a_sipush C0 (400 : Int32) dX6_areBounds_5 (by decide) ?_
    refine a_icmp_gt C0 37 dX6_areBounds_8 (by decide) (fun c_2 => ?_) (fun c_2 => ?_)
    · have h := it_ c_2 h
      refine a_iconst C0 (0 : Int32) dX6_areBounds_37 (by decide) ?_
      obtain rfl := Option.some.inj h
      exact a_zret C0 dX6_areBounds_38 rfl rfl rfl
    · have h := ie_ c_2 h
      refine a_iload_n C0 dX6_areBounds_11 rfl 1 rfl ?_
      refine a_if_lt C0 37 dX6_areBounds_12 (by decide) (fun c_3 => ?_) (fun c_3 => ?_)
      · have h := it_ c_3 h
        refine a_iconst C0 (0 : Int32) dX6_areBounds_37 (by decide) ?_
        obtain rfl := Option.some.inj h
        exact a_zret C0 dX6_areBounds_38 rfl rfl rfl
      · have h := ie_ c_3 h
        refine a_iload_n C0 dX6_areBounds_15 rfl 1 rfl ?_
        refine a_sipush C0 (800 : Int32) dX6_areBounds_16 (by decide) ?_
        refine a_icmp_gt C0 37 dX6_areBounds_19 (by decide) (fun c_4 => ?_) (fun c_4 => ?_)
        · have h := it_ c_4 h
          refine a_iconst C0 (0 : Int32) dX6_areBounds_37 (by decide) ?_
          obtain rfl := Option.some.inj h
          exact a_zret C0 dX6_areBounds_38 rfl rfl rfl
        · have h := ie_ c_4 h
          refine a_iload_n C0 dX6_areBounds_22 rfl 2 rfl ?_
          refine a_if_lt C0 37 dX6_areBounds_23 (by decide) (fun c_5 => ?_) (fun c_5 => ?_)
          · have h := it_ c_5 h
            refine a_iconst C0 (0 : Int32) dX6_areBounds_37 (by decide) ?_
            obtain rfl := Option.some.inj h
            exact a_zret C0 dX6_areBounds_38 rfl rfl rfl
          · have h := ie_ c_5 h
            refine a_iload_n C0 dX6_areBounds_26 rfl 2 rfl ?_
            refine a_sipush C0 (1500 : Int32) dX6_areBounds_27 (by decide) ?_
            refine a_icmp_gt C0 37 dX6_areBounds_30 (by decide) (fun c_6 => ?_) (fun c_6 => ?_)
            · have h := it_ c_6 h
              refine a_iconst C0 (0 : Int32) dX6_areBounds_37 (by decide) ?_
              obtain rfl := Option.some.inj h
              exact a_zret C0 dX6_areBounds_38 rfl rfl rfl
            · have h := ie_ c_6 h
              refine a_iconst C0 (1 : Int32) dX6_areBounds_33 (by decide) ?_
              refine a_goto C0 38 dX6_areBounds_34 (by decide) ?_
              obtain rfl := Option.some.inj h
              exact a_zret C0 dX6_areBounds_38 rfl rfl rfl
set_option maxRecDepth 100000 in
theorem ctX6_areBounds (l : Launch) (D : va_G) (cA : ClassId) (a0 : Int32) (a1 : Int32) (a2 : Int32) {res : Int32} (h : pX6_areBounds a0 a1 a2 = some res) : Cti l yX6_areBounds wsX6_areBounds (rmX6_areBounds) D vwCl [(cA, .int)] [.int a0, .int a1, .int a2] (wdX6_0 cA) (wdX6_0 cA) 0 0 res :=
  ct_i (maxL := 3) (cc := cX6_areBounds) (by decide) rfl (Nat.le_of_ble_eq_true rfl) (fun p e s m below meth c C0 => bwX6_areBounds C0 a0 a1 a2 h)
