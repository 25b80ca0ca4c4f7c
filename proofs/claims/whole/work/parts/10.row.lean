/-! PackDrawer$Row.backTo -/
abbrev wdX4_0 (cA : ClassId) (q0 q1 : Nat) (f0 : Nat → Int32) : va_W := [(q0, .inr (4, [.ref q1, .int (f0 1)]))]
abbrev rmX4_backTo : Room := { frames := 0, cells := 0, slots := 0, locals := 0 }
theorem lkX4_backTo_15 : Cond.fieldLink RX4 15 RX4 (TX4 1).2.1 (TX4 1).2.2.1 ∈ wsX4_backTo := by decide +kernel
theorem inX4_backTo_X4 : ∀ w ∈ u_ws RX4 TX4 2, w ∈ wsX4_backTo := by decide +kernel
def pX4_backTo (a1 : Int32) (f0 : Nat → Int32) : Option ((Nat → Int32)) := if a1 < 0 then some f0 else if (f0 1) ≤ a1 then some f0 else lt_ (upd f0 1 a1) (fun f0_3 => some f0_3)
set_option maxHeartbeats 4000000 in
set_option maxRecDepth 100000 in
theorem bwX4_backTo {p : Program} {l : Launch} {e : Env} {s : State} {m : MethodId} {args : Array Value} {below : List Frame} {meth : Method} {c : Code} {D : va_G} {A : Nat → Prop} {cA : ClassId} {q0 q1 : Nat} {res : (Nat → Int32)} (C0 : cx p s m args meth c cX4_backTo 2 RX4 wsX4_backTo none D vwCl [(cA, .int)] A) (a1 : Int32) (f0 : Nat → Int32) (h : pX4_backTo a1 f0 = some res) : At_ p l e (rmX4_backTo) s m args below meth c D vwCl A 2 0 0 (Qv_ below args s D vwCl A (wdX4_0 cA q0 q1 res)) 0 [(0, .ref q0), (1, .int a1)] [] (wdX4_0 cA q0 q1 f0) := by
  unfold pX4_backTo at h
  refine a_iload_n C0 dX4_backTo_0 rfl 1 rfl ?_
  refine a_if_lt C0 17 dX4_backTo_1 (by decide) (fun c_1 => ?_) (fun c_1 => ?_)
  · have h := it_ c_1 h
    obtain rfl := Option.some.inj h
    exact a_vret C0 dX4_backTo_17 rfl
  · have h := ie_ c_1 h
    refine a_iload_n C0 dX4_backTo_4 rfl 1 rfl ?_
    refine a_aload_n C0 dX4_backTo_5 rfl 0 rfl ?_
    refine a_get C0 inX4_backTo_X4 0 rfl rfl 1 (by decide) lkX4_backTo_15 (fun _ h9 => h9) (.int (f0 1)) rfl dX4_backTo_6 ?_
    refine a_icmp_ge C0 17 dX4_backTo_9 (by decide) (fun c_2 => ?_) (fun c_2 => ?_)
    · have h := it_ c_2 h
      obtain rfl := Option.some.inj h
      exact a_vret C0 dX4_backTo_17 rfl
    · have h := ie_ c_2 h
      refine a_aload_n C0 dX4_backTo_12 rfl 0 rfl ?_
      refine a_iload_n C0 dX4_backTo_13 rfl 1 rfl ?_
      obtain ⟨f0_3, ef0_3, h⟩ := lt_e h
      refine a_put C0 inX4_backTo_X4 tyX4 tyX4_ok nmX4 0 rfl rfl 1 (by decide) lkX4_backTo_15 (fun _ h9 => h9) rfl (ty := .int) (v := .int a1) (by decide +kernel) rfl rfl (Nat.le_of_ble_eq_true rfl) dX4_backTo_14 (wdX4_0 cA q0 q1 f0_3) (by subst ef0_3; rfl) ?_
      obtain rfl := Option.some.inj h
      exact a_vret C0 dX4_backTo_17 rfl
set_option maxRecDepth 100000 in
theorem ctX4_backTo (l : Launch) (D : va_G) (cA : ClassId) (q0 q1 : Nat) (a1 : Int32) (f0 : Nat → Int32) {res : (Nat → Int32)} (h : pX4_backTo a1 f0 = some res) : Ctv l yX4_backTo wsX4_backTo (rmX4_backTo) D vwCl [(cA, .int)] [.ref q0, .int a1] (wdX4_0 cA q0 q1 f0) (wdX4_0 cA q0 q1 res) 0 0 :=
  ct_n (S := Unit) (maxL := 2) (cc := cX4_backTo) (by decide) rfl (Nat.le_of_ble_eq_true rfl) (fun p e s m below meth c _ C0 => bwX4_backTo C0 a1 f0 h)
/-! PackDrawer$Row.push -/
abbrev wdX4_1 (cA : ClassId) (q0 q1 : Nat) (f0 : Nat → Int32) (f1 : Nat → Int32) : va_W := [(q0, .inr (4, [.ref q1, .int (f0 1)])), (q1, .inl (cA, 800, .inl f1))]
abbrev rmX4_push : Room := { frames := 0, cells := 0, slots := 0, locals := 0 }
theorem lkX4_push_15 : Cond.fieldLink RX4 15 RX4 (TX4 1).2.1 (TX4 1).2.2.1 ∈ wsX4_push := by decide +kernel
theorem inX4_push_X4 : ∀ w ∈ u_ws RX4 TX4 2, w ∈ wsX4_push := by decide +kernel
theorem lkX4_push_9 : Cond.fieldLink RX4 9 RX4 (TX4 0).2.1 (TX4 0).2.2.1 ∈ wsX4_push := by decide +kernel
def pX4_push (a1 : Int32) (f0 : Nat → Int32) (f1 : Nat → Int32) : Option ((Nat → Int32) × (Nat → Int32)) := if (800 : Int32) ≤ (f0 1) then some (f0, f1) else gi_ (f0 1) 800 (lt_ (upd f1 (f0 1).toNatClampNeg a1) (fun f1_3 => lt_ (upd f0 1 ((f0 1) + (1 : Int32))) (fun f0_4 => some (f0_4, f1_3))))
set_option maxHeartbeats 4000000 in
set_option maxRecDepth 100000 in
theorem bwX4_push {p : Program} {l : Launch} {e : Env} {s : State} {m : MethodId} {args : Array Value} {below : List Frame} {meth : Method} {c : Code} {D : va_G} {A : Nat → Prop} {cA : ClassId} {q0 q1 : Nat} {res : (Nat → Int32) × (Nat → Int32)} (C0 : cx p s m args meth c cX4_push 2 RX4 wsX4_push none D vwCl [(cA, .int)] A) (a1 : Int32) (f0 : Nat → Int32) (f1 : Nat → Int32) (h : pX4_push a1 f0 f1 = some res) : At_ p l e (rmX4_push) s m args below meth c D vwCl A 2 0 0 (Qv_ below args s D vwCl A (wdX4_1 cA q0 q1 res.1 res.2)) 0 [(0, .ref q0), (1, .int a1)] [] (wdX4_1 cA q0 q1 f0 f1) := by
  unfold pX4_push at h
  refine a_aload_n C0 dX4_push_0 rfl 0 rfl ?_
  refine a_get C0 inX4_push_X4 0 rfl rfl 1 (by decide) lkX4_push_15 (fun _ h9 => h9) (.int (f0 1)) rfl dX4_push_1 ?_
  refine a_aload_n C0 dX4_push_4 rfl 0 rfl ?_
  refine a_get C0 inX4_push_X4 0 rfl rfl 0 (by decide) lkX4_push_9 (fun _ h9 => h9) (.ref q1) rfl dX4_push_5 ?_
  refine a_alen C0 1 0 rfl rfl (800 : Int32) rfl dX4_push_8 ?_
  refine a_icmp_ge C0 32 dX4_push_9 (by decide) (fun c_1 => ?_) (fun c_1 => ?_)
  · have h := it_ c_1 h
    obtain rfl := Option.some.inj h
    exact a_vret C0 dX4_push_32 rfl
  · have h := ie_ c_1 h
    refine a_aload_n C0 dX4_push_12 rfl 0 rfl ?_
    refine a_get C0 inX4_push_X4 0 rfl rfl 0 (by decide) lkX4_push_9 (fun _ h9 => h9) (.ref q1) rfl dX4_push_13 ?_
    refine a_aload_n C0 dX4_push_16 rfl 0 rfl ?_
    refine a_get C0 inX4_push_X4 0 rfl rfl 1 (by decide) lkX4_push_15 (fun _ h9 => h9) (.int (f0 1)) rfl dX4_push_17 ?_
    refine a_iload_n C0 dX4_push_20 rfl 1 rfl ?_
    obtain ⟨g_2, h⟩ := gi_e h
    obtain ⟨f1_3, ef1_3, h⟩ := lt_e h
    refine a_iast C0 1 0 rfl rfl g_2 dX4_push_21 (wdX4_1 cA q0 q1 f0 f1_3) (by subst ef1_3; rfl) ?_
    refine a_aload_n C0 dX4_push_22 rfl 0 rfl ?_
    refine a_dup C0 dX4_push_23 rfl ?_
    refine a_get C0 inX4_push_X4 0 rfl rfl 1 (by decide) lkX4_push_15 (fun _ h9 => h9) (.int (f0 1)) rfl dX4_push_24 ?_
    refine a_iconst C0 (1 : Int32) dX4_push_27 (by decide) ?_
    refine a_iadd C0 dX4_push_28 ?_
    obtain ⟨f0_4, ef0_4, h⟩ := lt_e h
    refine a_put C0 inX4_push_X4 tyX4 tyX4_ok nmX4 0 rfl rfl 1 (by decide) lkX4_push_15 (fun _ h9 => h9) rfl (ty := .int) (v := .int ((f0 1) + (1 : Int32))) (by decide +kernel) rfl rfl (Nat.le_of_ble_eq_true rfl) dX4_push_29 (wdX4_1 cA q0 q1 f0_4 f1_3) (by subst ef0_4; rfl) ?_
    obtain rfl := Option.some.inj h
    exact a_vret C0 dX4_push_32 rfl
set_option maxRecDepth 100000 in
theorem ctX4_push (l : Launch) (D : va_G) (cA : ClassId) (q0 q1 : Nat) (a1 : Int32) (f0 : Nat → Int32) (f1 : Nat → Int32) {res : (Nat → Int32) × (Nat → Int32)} (h : pX4_push a1 f0 f1 = some res) : Ctv l yX4_push wsX4_push (rmX4_push) D vwCl [(cA, .int)] [.ref q0, .int a1] (wdX4_1 cA q0 q1 f0 f1) (wdX4_1 cA q0 q1 res.1 res.2) 0 0 :=
  ct_n (S := Unit) (maxL := 2) (cc := cX4_push) (by decide) rfl (Nat.le_of_ble_eq_true rfl) (fun p e s m below meth c _ C0 => bwX4_push C0 a1 f0 f1 h)
/-! PackDrawer$Stream.count -/
abbrev wdX5_0 (cA : ClassId) (q0 q1 : Nat) (f0 : Nat → Int32) : va_W := [(q0, .inr (5, [.ref q1, .int (f0 1)]))]
abbrev rmX5_count : Room := { frames := 0, cells := 0, slots := 0, locals := 0 }
theorem lkX5_count_15 : Cond.fieldLink RX5 15 RX5 (TX5 1).2.1 (TX5 1).2.2.1 ∈ wsX5_count := by decide +kernel
theorem inX5_count_X5 : ∀ w ∈ u_ws RX5 TX5 2, w ∈ wsX5_count := by decide +kernel
def pX5_count (f0 : Nat → Int32) : Option (Int32) := some (f0 1)
set_option maxHeartbeats 4000000 in
set_option maxRecDepth 100000 in
theorem bwX5_count {p : Program} {l : Launch} {e : Env} {s : State} {m : MethodId} {args : Array Value} {below : List Frame} {meth : Method} {c : Code} {D : va_G} {A : Nat → Prop} {cA : ClassId} {q0 q1 : Nat} {res : Int32} (C0 : cx p s m args meth c cX5_count 1 RX5 wsX5_count (some .int) D vwCl [(cA, .int)] A) (f0 : Nat → Int32) (h : pX5_count f0 = some res) : At_ p l e (rmX5_count) s m args below meth c D vwCl A 1 0 0 (Qi_ below args s D vwCl A (wdX5_0 cA q0 q1 f0) res) 0 [(0, .ref q0)] [] (wdX5_0 cA q0 q1 f0) := by
  unfold pX5_count at h
  refine a_aload_n C0 dX5_count_0 rfl 0 rfl ?_
  refine a_get C0 inX5_count_X5 0 rfl rfl 1 (by decide) lkX5_count_15 (fun _ h9 => h9) (.int (f0 1)) rfl dX5_count_1 ?_
  obtain rfl := Option.some.inj h
  exact a_iret C0 dX5_count_4 rfl rfl
set_option maxRecDepth 100000 in
theorem ctX5_count (l : Launch) (D : va_G) (cA : ClassId) (q0 q1 : Nat) (f0 : Nat → Int32) {res : Int32} (h : pX5_count f0 = some res) : Cti l yX5_count wsX5_count (rmX5_count) D vwCl [(cA, .int)] [.ref q0] (wdX5_0 cA q0 q1 f0) (wdX5_0 cA q0 q1 f0) 0 0 res :=
  ct_i (maxL := 1) (cc := cX5_count) (by decide) rfl (Nat.le_of_ble_eq_true rfl) (fun p e s m below meth c C0 => bwX5_count C0 f0 h)
/-! PackDrawer$Row.top -/
abbrev rmX4_top : Room := { frames := 0, cells := 0, slots := 0, locals := 0 }
theorem lkX4_top_15 : Cond.fieldLink RX4 15 RX4 (TX4 1).2.1 (TX4 1).2.2.1 ∈ wsX4_top := by decide +kernel
theorem inX4_top_X4 : ∀ w ∈ u_ws RX4 TX4 2, w ∈ wsX4_top := by decide +kernel
def pX4_top (f0 : Nat → Int32) : Option (Int32) := some (f0 1)
set_option maxHeartbeats 4000000 in
set_option maxRecDepth 100000 in
theorem bwX4_top {p : Program} {l : Launch} {e : Env} {s : State} {m : MethodId} {args : Array Value} {below : List Frame} {meth : Method} {c : Code} {D : va_G} {A : Nat → Prop} {cA : ClassId} {q0 q1 : Nat} {res : Int32} (C0 : cx p s m args meth c cX4_top 1 RX4 wsX4_top (some .int) D vwCl [(cA, .int)] A) (f0 : Nat → Int32) (h : pX4_top f0 = some res) : At_ p l e (rmX4_top) s m args below meth c D vwCl A 1 0 0 (Qi_ below args s D vwCl A (wdX4_0 cA q0 q1 f0) res) 0 [(0, .ref q0)] [] (wdX4_0 cA q0 q1 f0) := by
  unfold pX4_top at h
  refine a_aload_n C0 dX4_top_0 rfl 0 rfl ?_
  refine a_get C0 inX4_top_X4 0 rfl rfl 1 (by decide) lkX4_top_15 (fun _ h9 => h9) (.int (f0 1)) rfl dX4_top_1 ?_
  obtain rfl := Option.some.inj h
  exact a_iret C0 dX4_top_4 rfl rfl
set_option maxRecDepth 100000 in
theorem ctX4_top (l : Launch) (D : va_G) (cA : ClassId) (q0 q1 : Nat) (f0 : Nat → Int32) {res : Int32} (h : pX4_top f0 = some res) : Cti l yX4_top wsX4_top (rmX4_top) D vwCl [(cA, .int)] [.ref q0] (wdX4_0 cA q0 q1 f0) (wdX4_0 cA q0 q1 f0) 0 0 res :=
  ct_i (maxL := 1) (cc := cX4_top) (by decide) rfl (Nat.le_of_ble_eq_true rfl) (fun p e s m below meth c C0 => bwX4_top C0 f0 h)
/-! PackDrawer$Stream.has -/
abbrev rmX5_has : Room := { frames := 0, cells := 0, slots := 0, locals := 0 }
theorem lkX5_has_15 : Cond.fieldLink RX5 15 RX5 (TX5 1).2.1 (TX5 1).2.2.1 ∈ wsX5_has := by decide +kernel
theorem inX5_has_X5 : ∀ w ∈ u_ws RX5 TX5 2, w ∈ wsX5_has := by decide +kernel
def pX5_has (a1 : Int32) (f0 : Nat → Int32) : Option (Int32) := if a1 < 0 then some (0 : Int32) else if (f0 1) ≤ a1 then some (0 : Int32) else some (1 : Int32)
set_option maxHeartbeats 4000000 in
set_option maxRecDepth 100000 in
theorem bwX5_has {p : Program} {l : Launch} {e : Env} {s : State} {m : MethodId} {args : Array Value} {below : List Frame} {meth : Method} {c : Code} {D : va_G} {A : Nat → Prop} {cA : ClassId} {q0 q1 : Nat} {res : Int32} (C0 : cx p s m args meth c cX5_has 2 RX5 wsX5_has (some .boolean) D vwCl [(cA, .int)] A) (a1 : Int32) (f0 : Nat → Int32) (h : pX5_has a1 f0 = some res) : At_ p l e (rmX5_has) s m args below meth c D vwCl A 2 0 0 (Qi_ below args s D vwCl A (wdX5_0 cA q0 q1 f0) res) 0 [(0, .ref q0), (1, .int a1)] [] (wdX5_0 cA q0 q1 f0) := by
  unfold pX5_has at h
  refine a_iload_n C0 dX5_has_0 rfl 1 rfl ?_
  refine a_if_lt C0 16 dX5_has_1 (by decide) (fun c_1 => ?_) (fun c_1 => ?_)
  · have h := it_ c_1 h
    refine a_iconst C0 (0 : Int32) dX5_has_16 (by decide) ?_
    obtain rfl := Option.some.inj h
    exact a_zret C0 dX5_has_17 rfl rfl rfl
  · have h := ie_ c_1 h
    refine a_iload_n C0 dX5_has_4 rfl 1 rfl ?_
    refine a_aload_n C0 dX5_has_5 rfl 0 rfl ?_
    refine a_get C0 inX5_has_X5 0 rfl rfl 1 (by decide) lkX5_has_15 (fun _ h9 => h9) (.int (f0 1)) rfl dX5_has_6 ?_
    refine a_icmp_ge C0 16 dX5_has_9 (by decide) (fun c_2 => ?_) (fun c_2 => ?_)
    · have h := it_ c_2 h
      refine a_iconst C0 (0 : Int32) dX5_has_16 (by decide) ?_
      obtain rfl := Option.some.inj h
      exact a_zret C0 dX5_has_17 rfl rfl rfl
    · have h := ie_ c_2 h
      refine a_iconst C0 (1 : Int32) dX5_has_12 (by decide) ?_
      refine a_goto C0 17 dX5_has_13 (by decide) ?_
      obtain rfl := Option.some.inj h
      exact a_zret C0 dX5_has_17 rfl rfl rfl
set_option maxRecDepth 100000 in
theorem ctX5_has (l : Launch) (D : va_G) (cA : ClassId) (q0 q1 : Nat) (a1 : Int32) (f0 : Nat → Int32) {res : Int32} (h : pX5_has a1 f0 = some res) : Cti l yX5_has wsX5_has (rmX5_has) D vwCl [(cA, .int)] [.ref q0, .int a1] (wdX5_0 cA q0 q1 f0) (wdX5_0 cA q0 q1 f0) 0 0 res :=
  ct_i (maxL := 2) (cc := cX5_has) (by decide) rfl (Nat.le_of_ble_eq_true rfl) (fun p e s m below meth c C0 => bwX5_has C0 a1 f0 h)
/-! PackDrawer$Stream.byteAt -/
abbrev wdX5_1 (cA : ClassId) (q0 q1 : Nat) (f0 : Nat → Int32) (f1 : Nat → Int32) : va_W := [(q0, .inr (5, [.ref q1, .int (f0 1)])), (q1, .inl (cA, 160, .inl f1))]
theorem hdX5_has : yX5_has.cls = RX5 ∧ yX5_has.cls ≠ "java/lang/invoke/MethodHandle" ∧ yX5_has.cls ≠ "java/lang/invoke/VarHandle" ∧ (parseMethodDescriptor yX5_has.desc).map (fun d => d.parameters.length) = some 1 := by decide +kernel
abbrev rmX5_byteAt : Room := { frames := 1, cells := 0, slots := 0, locals := 21 }
theorem lkX5_byteAt_9 : Cond.fieldLink RX5 9 RX5 (TX5 0).2.1 (TX5 0).2.2.1 ∈ wsX5_byteAt := by decide +kernel
theorem inX5_byteAt_X5 : ∀ w ∈ u_ws RX5 TX5 2, w ∈ wsX5_byteAt := by decide +kernel
def pX5_byteAt (a1 : Int32) (f0 : Nat → Int32) (f1 : Nat → Int32) : Option (Int32) := bd1 (pX5_has a1 f0) (fun r_1 => if r_1 = 0 then some (0 : Int32) else gi_ a1 160 (some (f1 a1.toNatClampNeg)))
set_option maxHeartbeats 4000000 in
set_option maxRecDepth 100000 in
theorem bwX5_byteAt {p : Program} {l : Launch} {e : Env} {s : State} {m : MethodId} {args : Array Value} {below : List Frame} {meth : Method} {c : Code} {D : va_G} {A : Nat → Prop} {cA : ClassId} {q0 q1 : Nat} {res : Int32} (C0 : cx p s m args meth c cX5_byteAt 2 RX5 wsX5_byteAt (some .int) D vwCl [(cA, .int)] A) (a1 : Int32) (f0 : Nat → Int32) (f1 : Nat → Int32) (h : pX5_byteAt a1 f0 f1 = some res) : At_ p l e (rmX5_byteAt) s m args below meth c D vwCl A 2 0 0 (Qi_ below args s D vwCl A (wdX5_1 cA q0 q1 f0 f1) res) 0 [(0, .ref q0), (1, .int a1)] [] (wdX5_1 cA q0 q1 f0 f1) := by
  unfold pX5_byteAt at h
  refine a_aload_n C0 dX5_byteAt_0 rfl 0 rfl ?_
  refine a_iload_n C0 dX5_byteAt_1 rfl 1 rfl ?_
  obtain ⟨r_1, h_2, h⟩ := bd1_e h
  refine a_callVi C0 (wdX5_1 cA q0 q1 f0 f1) (As := [.int a1]) (rest := []) (ctX5_has l D cA q0 q1 a1 f0 h_2) (cwV 1 C0.1.2.2.2.2 gX5_byteAt_X5_has rfl rfl rfl hdX5_has ⟨Nat.le_of_ble_eq_true rfl, Nat.le_of_ble_eq_true rfl⟩) [0] [1] [1, 0] rfl rfl rfl rfl (by decide) rfl rfl rfl rfl rfl rfl (Nat.le_of_ble_eq_true rfl) dX5_byteAt_2 ⟨Nat.zero_le _, Nat.zero_le _⟩ ?_
  refine a_if_eq C0 17 dX5_byteAt_5 (by decide) (fun c_3 => ?_) (fun c_3 => ?_)
  · have h := it_ c_3 h
    refine a_iconst C0 (0 : Int32) dX5_byteAt_17 (by decide) ?_
    obtain rfl := Option.some.inj h
    exact a_iret C0 dX5_byteAt_18 rfl rfl
  · have h := ie_ c_3 h
    refine a_aload_n C0 dX5_byteAt_8 rfl 0 rfl ?_
    refine a_get C0 inX5_byteAt_X5 0 rfl rfl 0 (by decide) lkX5_byteAt_9 (fun _ h9 => h9) (.ref q1) rfl dX5_byteAt_9 ?_
    refine a_iload_n C0 dX5_byteAt_12 rfl 1 rfl ?_
    obtain ⟨g_4, h⟩ := gi_e h
    refine a_iald C0 1 0 rfl rfl g_4 dX5_byteAt_13 ?_
    refine a_goto C0 18 dX5_byteAt_14 (by decide) ?_
    obtain rfl := Option.some.inj h
    exact a_iret C0 dX5_byteAt_18 rfl rfl
set_option maxRecDepth 100000 in
theorem ctX5_byteAt (l : Launch) (D : va_G) (cA : ClassId) (q0 q1 : Nat) (a1 : Int32) (f0 : Nat → Int32) (f1 : Nat → Int32) {res : Int32} (h : pX5_byteAt a1 f0 f1 = some res) : Cti l yX5_byteAt wsX5_byteAt (rmX5_byteAt) D vwCl [(cA, .int)] [.ref q0, .int a1] (wdX5_1 cA q0 q1 f0 f1) (wdX5_1 cA q0 q1 f0 f1) 0 0 res :=
  ct_i (maxL := 2) (cc := cX5_byteAt) (by decide) rfl (Nat.le_of_ble_eq_true rfl) (fun p e s m below meth c C0 => bwX5_byteAt C0 a1 f0 f1 h)
/-! PackDrawer$Row.byteAt -/
abbrev rmX4_byteAt : Room := { frames := 0, cells := 0, slots := 0, locals := 0 }
theorem lkX4_byteAt_9 : Cond.fieldLink RX4 9 RX4 (TX4 0).2.1 (TX4 0).2.2.1 ∈ wsX4_byteAt := by decide +kernel
theorem inX4_byteAt_X4 : ∀ w ∈ u_ws RX4 TX4 2, w ∈ wsX4_byteAt := by decide +kernel
def pX4_byteAt (a1 : Int32) (f0 : Nat → Int32) (f1 : Nat → Int32) : Option (Int32) := if a1 < 0 then some (0 : Int32) else if (800 : Int32) ≤ a1 then some (0 : Int32) else gi_ a1 800 (some (f1 a1.toNatClampNeg))
set_option maxHeartbeats 4000000 in
set_option maxRecDepth 100000 in
theorem bwX4_byteAt {p : Program} {l : Launch} {e : Env} {s : State} {m : MethodId} {args : Array Value} {below : List Frame} {meth : Method} {c : Code} {D : va_G} {A : Nat → Prop} {cA : ClassId} {q0 q1 : Nat} {res : Int32} (C0 : cx p s m args meth c cX4_byteAt 2 RX4 wsX4_byteAt (some .int) D vwCl [(cA, .int)] A) (a1 : Int32) (f0 : Nat → Int32) (f1 : Nat → Int32) (h : pX4_byteAt a1 f0 f1 = some res) : At_ p l e (rmX4_byteAt) s m args below meth c D vwCl A 2 0 0 (Qi_ below args s D vwCl A (wdX4_1 cA q0 q1 f0 f1) res) 0 [(0, .ref q0), (1, .int a1)] [] (wdX4_1 cA q0 q1 f0 f1) := by
  unfold pX4_byteAt at h
  refine a_iload_n C0 dX4_byteAt_0 rfl 1 rfl ?_
  refine a_if_lt C0 22 dX4_byteAt_1 (by decide) (fun c_1 => ?_) (fun c_1 => ?_)
  · have h := it_ c_1 h
    refine a_iconst C0 (0 : Int32) dX4_byteAt_22 (by decide) ?_
    obtain rfl := Option.some.inj h
    exact a_iret C0 dX4_byteAt_23 rfl rfl
  · have h := ie_ c_1 h
    refine a_iload_n C0 dX4_byteAt_4 rfl 1 rfl ?_
    refine a_aload_n C0 dX4_byteAt_5 rfl 0 rfl ?_
    refine a_get C0 inX4_byteAt_X4 0 rfl rfl 0 (by decide) lkX4_byteAt_9 (fun _ h9 => h9) (.ref q1) rfl dX4_byteAt_6 ?_
    refine a_alen C0 1 0 rfl rfl (800 : Int32) rfl dX4_byteAt_9 ?_
    refine a_icmp_ge C0 22 dX4_byteAt_10 (by decide) (fun c_2 => ?_) (fun c_2 => ?_)
    · have h := it_ c_2 h
      refine a_iconst C0 (0 : Int32) dX4_byteAt_22 (by decide) ?_
      obtain rfl := Option.some.inj h
      exact a_iret C0 dX4_byteAt_23 rfl rfl
    · have h := ie_ c_2 h
      refine a_aload_n C0 dX4_byteAt_13 rfl 0 rfl ?_
      refine a_get C0 inX4_byteAt_X4 0 rfl rfl 0 (by decide) lkX4_byteAt_9 (fun _ h9 => h9) (.ref q1) rfl dX4_byteAt_14 ?_
      refine a_iload_n C0 dX4_byteAt_17 rfl 1 rfl ?_
      obtain ⟨g_3, h⟩ := gi_e h
      refine a_iald C0 1 0 rfl rfl g_3 dX4_byteAt_18 ?_
      refine a_goto C0 23 dX4_byteAt_19 (by decide) ?_
      obtain rfl := Option.some.inj h
      exact a_iret C0 dX4_byteAt_23 rfl rfl
set_option maxRecDepth 100000 in
theorem ctX4_byteAt (l : Launch) (D : va_G) (cA : ClassId) (q0 q1 : Nat) (a1 : Int32) (f0 : Nat → Int32) (f1 : Nat → Int32) {res : Int32} (h : pX4_byteAt a1 f0 f1 = some res) : Cti l yX4_byteAt wsX4_byteAt (rmX4_byteAt) D vwCl [(cA, .int)] [.ref q0, .int a1] (wdX4_1 cA q0 q1 f0 f1) (wdX4_1 cA q0 q1 f0 f1) 0 0 res :=
  ct_i (maxL := 2) (cc := cX4_byteAt) (by decide) rfl (Nat.le_of_ble_eq_true rfl) (fun p e s m below meth c C0 => bwX4_byteAt C0 a1 f0 f1 h)
/-! PackDrawer$Row.copyFromBefore -/
theorem hdX4_byteAt : yX4_byteAt.cls = RX4 ∧ yX4_byteAt.cls ≠ "java/lang/invoke/MethodHandle" ∧ yX4_byteAt.cls ≠ "java/lang/invoke/VarHandle" ∧ (parseMethodDescriptor yX4_byteAt.desc).map (fun d => d.parameters.length) = some 1 := by decide +kernel
theorem hdX4_push : yX4_push.cls = RX4 ∧ yX4_push.cls ≠ "java/lang/invoke/MethodHandle" ∧ yX4_push.cls ≠ "java/lang/invoke/VarHandle" ∧ (parseMethodDescriptor yX4_push.desc).map (fun d => d.parameters.length) = some 1 := by decide +kernel
abbrev rmX4_copyFromBefore : Room := { frames := 1, cells := 0, slots := 0, locals := 21 }
theorem lkX4_copyFromBefore_15 : Cond.fieldLink RX4 15 RX4 (TX4 1).2.1 (TX4 1).2.2.1 ∈ wsX4_copyFromBefore := by decide +kernel
theorem inX4_copyFromBefore_X4 : ∀ w ∈ u_ws RX4 TX4 2, w ∈ wsX4_copyFromBefore := by decide +kernel
def bFX4_copyFromBefore_2 (N : Nat) (a1 : Int32) (a2 : Int32) (rc2 : Int32 → (Nat → Int32) → (Nat → Int32) → Option ((Nat → Int32) × (Nat → Int32))) (v3 : Int32) (f0 : Nat → Int32) (f1 : Nat → Int32) : Option ((Nat → Int32) × (Nat → Int32)) := if a2 ≤ v3 then some (f0, f1) else bd1 (pX4_byteAt ((f0 1) - a1) f0 f1) (fun r_2 => bd2 (pX4_push r_2 f0 f1) (fun f0_4 f1_5 => lt_ ((v3 + (1 : Int32))) (fun x_7 => rc2 x_7 f0_4 f1_5)))
def bfX4_copyFromBefore_2 (N : Nat) (a1 : Int32) (a2 : Int32) : Nat → Int32 → (Nat → Int32) → (Nat → Int32) → Option ((Nat → Int32) × (Nat → Int32))
  | 0 => fun _ _ _ => none
  | n + 1 => bFX4_copyFromBefore_2 N a1 a2  (bfX4_copyFromBefore_2 N a1 a2  n)
def pX4_copyFromBefore (N : Nat) (a1 : Int32) (a2 : Int32) (f0 : Nat → Int32) (f1 : Nat → Int32) : Option ((Nat → Int32) × (Nat → Int32)) := bfX4_copyFromBefore_2 N a1 a2 N (0 : Int32) f0 f1
set_option maxHeartbeats 4000000 in
set_option maxRecDepth 100000 in
theorem bwX4_copyFromBefore_2 {p : Program} {l : Launch} {e : Env} {s : State} {m : MethodId} {args : Array Value} {below : List Frame} {meth : Method} {c : Code} {D : va_G} {A : Nat → Prop} {cA : ClassId} {q0 q1 : Nat} {res : (Nat → Int32) × (Nat → Int32)} (C0 : cx p s m args meth c cX4_copyFromBefore 4 RX4 wsX4_copyFromBefore none D vwCl [(cA, .int)] A) (N : Nat) (a1 : Int32) (a2 : Int32) : ∀ (n : Nat) (v3 : Int32) (f0 : Nat → Int32) (f1 : Nat → Int32), bfX4_copyFromBefore_2 N a1 a2  n v3 f0 f1 = some res → At_ p l e (rmX4_copyFromBefore) s m args below meth c D vwCl A 4 0 0 (Qv_ below args s D vwCl A (wdX4_1 cA q0 q1 res.1 res.2)) 2 [(0, .ref q0), (1, .int a1), (2, .int a2), (3, .int v3)] [] (wdX4_1 cA q0 q1 f0 f1) := by
  intro n
  induction n with
  | zero => intro v3 f0 f1 h; cases h
  | succ n hrc2 =>
    intro v3 f0 f1 h
    replace h : bFX4_copyFromBefore_2 N a1 a2  (bfX4_copyFromBefore_2 N a1 a2  n) v3 f0 f1 = some res := h
    generalize bfX4_copyFromBefore_2 N a1 a2  n = rc2 at h hrc2
    unfold bFX4_copyFromBefore_2 at h
    refine a_iload_n C0 dX4_copyFromBefore_2 rfl 3 rfl ?_
    refine a_iload_n C0 dX4_copyFromBefore_3 rfl 2 rfl ?_
    refine a_icmp_ge C0 27 dX4_copyFromBefore_4 (by decide) (fun c_1 => ?_) (fun c_1 => ?_)
    · have h := it_ c_1 h
      obtain rfl := Option.some.inj h
      exact a_vret C0 dX4_copyFromBefore_27 rfl
    · have h := ie_ c_1 h
      refine a_aload_n C0 dX4_copyFromBefore_7 rfl 0 rfl ?_
      refine a_aload_n C0 dX4_copyFromBefore_8 rfl 0 rfl ?_
      refine a_aload_n C0 dX4_copyFromBefore_9 rfl 0 rfl ?_
      refine a_get C0 inX4_copyFromBefore_X4 0 rfl rfl 1 (by decide) lkX4_copyFromBefore_15 (fun _ h9 => h9) (.int (f0 1)) rfl dX4_copyFromBefore_10 ?_
      refine a_iload_n C0 dX4_copyFromBefore_13 rfl 1 rfl ?_
      refine a_isub C0 dX4_copyFromBefore_14 ?_
      obtain ⟨r_2, h_3, h⟩ := bd1_e h
      refine a_callVi C0 (wdX4_1 cA q0 q1 f0 f1) (As := [.int ((f0 1) - a1)]) (rest := [.ref q0]) (ctX4_byteAt l D cA q0 q1 ((f0 1) - a1) f0 f1 h_3) (cwV 1 C0.1.2.2.2.2 gX4_copyFromBefore_X4_byteAt rfl rfl rfl hdX4_byteAt ⟨Nat.le_of_ble_eq_true rfl, Nat.le_of_ble_eq_true rfl⟩) [0, 1] [] [0, 1] rfl rfl rfl rfl (by decide) rfl rfl rfl rfl rfl rfl (Nat.le_of_ble_eq_true rfl) dX4_copyFromBefore_15 ⟨Nat.zero_le _, Nat.zero_le _⟩ ?_
      obtain ⟨f0_4, f1_5, h_6, h⟩ := bd2_e h
      refine a_callVv C0 (wdX4_1 cA q0 q1 f0_4 f1_5) (As := [.int r_2]) (rest := []) (ctX4_push l D cA q0 q1 r_2 f0 f1 h_6) (cwV 1 C0.1.2.2.2.2 gX4_copyFromBefore_X4_push rfl rfl rfl hdX4_push ⟨Nat.le_of_ble_eq_true rfl, Nat.le_of_ble_eq_true rfl⟩) [0, 1] [] [0, 1] rfl rfl rfl rfl (by decide) rfl rfl rfl rfl rfl rfl (Nat.le_of_ble_eq_true rfl) dX4_copyFromBefore_18 ⟨Nat.zero_le _, Nat.zero_le _⟩ ?_
      obtain ⟨x_7, ex_7, h⟩ := lt_e h
      refine a_iinc C0 x_7 [(3, .int x_7), (0, .ref q0), (1, .int a1), (2, .int a2)] dX4_copyFromBefore_21 3 rfl (by subst ex_7; rfl) (by decide) rfl ?_
      refine a_goto C0 2 dX4_copyFromBefore_24 (by decide) ?_
      refine a_lv [1, 2, 3, 0] (lv' := [(0, .ref q0), (1, .int a1), (2, .int a2), (3, .int x_7)]) rfl ?_
      exact hrc2 x_7 f0_4 f1_5 h
set_option maxHeartbeats 4000000 in
set_option maxRecDepth 100000 in
theorem bwX4_copyFromBefore {p : Program} {l : Launch} {e : Env} {s : State} {m : MethodId} {args : Array Value} {below : List Frame} {meth : Method} {c : Code} {D : va_G} {A : Nat → Prop} {cA : ClassId} {q0 q1 : Nat} {res : (Nat → Int32) × (Nat → Int32)} (C0 : cx p s m args meth c cX4_copyFromBefore 4 RX4 wsX4_copyFromBefore none D vwCl [(cA, .int)] A) (N : Nat) (a1 : Int32) (a2 : Int32) (f0 : Nat → Int32) (f1 : Nat → Int32) (h : pX4_copyFromBefore N a1 a2 f0 f1 = some res) : At_ p l e (rmX4_copyFromBefore) s m args below meth c D vwCl A 4 0 0 (Qv_ below args s D vwCl A (wdX4_1 cA q0 q1 res.1 res.2)) 0 [(0, .ref q0), (1, .int a1), (2, .int a2)] [] (wdX4_1 cA q0 q1 f0 f1) := by
  unfold pX4_copyFromBefore at h
  refine a_iconst C0 (0 : Int32) dX4_copyFromBefore_0 (by decide) ?_
  refine a_istore_n C0 [(3, .int (0 : Int32)), (0, .ref q0), (1, .int a1), (2, .int a2)] dX4_copyFromBefore_1 rfl (by decide) rfl ?_
  refine a_lv [1, 2, 3, 0] (lv' := [(0, .ref q0), (1, .int a1), (2, .int a2), (3, .int (0 : Int32))]) rfl ?_
  exact bwX4_copyFromBefore_2 C0 N a1 a2 N (0 : Int32) f0 f1 h
set_option maxRecDepth 100000 in
theorem ctX4_copyFromBefore (l : Launch) (D : va_G) (cA : ClassId) (q0 q1 : Nat) (N : Nat) (a1 : Int32) (a2 : Int32) (f0 : Nat → Int32) (f1 : Nat → Int32) {res : (Nat → Int32) × (Nat → Int32)} (h : pX4_copyFromBefore N a1 a2 f0 f1 = some res) : Ctv l yX4_copyFromBefore wsX4_copyFromBefore (rmX4_copyFromBefore) D vwCl [(cA, .int)] [.ref q0, .int a1, .int a2] (wdX4_1 cA q0 q1 f0 f1) (wdX4_1 cA q0 q1 res.1 res.2) 0 0 :=
  ct_n (S := Unit) (maxL := 4) (cc := cX4_copyFromBefore) (by decide) rfl (Nat.le_of_ble_eq_true rfl) (fun p e s m below meth c _ C0 => bwX4_copyFromBefore C0 N a1 a2 f0 f1 h)
/-! PackDrawer$Row.sumFrom -/
abbrev rmX4_sumFrom : Room := { frames := 1, cells := 0, slots := 0, locals := 21 }
theorem lkX4_sumFrom_15 : Cond.fieldLink RX4 15 RX4 (TX4 1).2.1 (TX4 1).2.2.1 ∈ wsX4_sumFrom := by decide +kernel
theorem inX4_sumFrom_X4 : ∀ w ∈ u_ws RX4 TX4 2, w ∈ wsX4_sumFrom := by decide +kernel
def bFX4_sumFrom_4 (N : Nat) (a1 : Int32) (f0 : Nat → Int32) (f1 : Nat → Int32) (rc4 : Int32 → Int32 → Option (Int32)) (v2 : Int32) (v3 : Int32) : Option (Int32) := if (f0 1) ≤ v3 then some (v2 &&& (255 : Int32)) else bd1 (pX4_byteAt v3 f0 f1) (fun r_2 => lt_ ((v2 + r_2)) (fun x_4 => lt_ ((v3 + (1 : Int32))) (fun x_5 => rc4 x_4 x_5)))
def bfX4_sumFrom_4 (N : Nat) (a1 : Int32) (f0 : Nat → Int32) (f1 : Nat → Int32) : Nat → Int32 → Int32 → Option (Int32)
  | 0 => fun _ _ => none
  | n + 1 => bFX4_sumFrom_4 N a1 f0 f1  (bfX4_sumFrom_4 N a1 f0 f1  n)
def pX4_sumFrom (N : Nat) (a1 : Int32) (f0 : Nat → Int32) (f1 : Nat → Int32) : Option (Int32) := bfX4_sumFrom_4 N a1 f0 f1 N (0 : Int32) a1
set_option maxHeartbeats 4000000 in
set_option maxRecDepth 100000 in
theorem bwX4_sumFrom_4 {p : Program} {l : Launch} {e : Env} {s : State} {m : MethodId} {args : Array Value} {below : List Frame} {meth : Method} {c : Code} {D : va_G} {A : Nat → Prop} {cA : ClassId} {q0 q1 : Nat} {res : Int32} (C0 : cx p s m args meth c cX4_sumFrom 4 RX4 wsX4_sumFrom (some .int) D vwCl [(cA, .int)] A) (N : Nat) (a1 : Int32) (f0 : Nat → Int32) (f1 : Nat → Int32) : ∀ (n : Nat) (v2 : Int32) (v3 : Int32), bfX4_sumFrom_4 N a1 f0 f1  n v2 v3 = some res → At_ p l e (rmX4_sumFrom) s m args below meth c D vwCl A 4 0 0 (Qi_ below args s D vwCl A (wdX4_1 cA q0 q1 f0 f1) res) 4 [(0, .ref q0), (1, .int a1), (2, .int v2), (3, .int v3)] [] (wdX4_1 cA q0 q1 f0 f1) := by
  intro n
  induction n with
  | zero => intro v2 v3 h; cases h
  | succ n hrc4 =>
    intro v2 v3 h
    replace h : bFX4_sumFrom_4 N a1 f0 f1  (bfX4_sumFrom_4 N a1 f0 f1  n) v2 v3 = some res := h
    generalize bfX4_sumFrom_4 N a1 f0 f1  n = rc4 at h hrc4
    unfold bFX4_sumFrom_4 at h
    refine a_iload_n C0 dX4_sumFrom_4 rfl 3 rfl ?_
    refine a_aload_n C0 dX4_sumFrom_5 rfl 0 rfl ?_
    refine a_get C0 inX4_sumFrom_X4 0 rfl rfl 1 (by decide) lkX4_sumFrom_15 (fun _ h9 => h9) (.int (f0 1)) rfl dX4_sumFrom_6 ?_
    refine a_icmp_ge C0 26 dX4_sumFrom_9 (by decide) (fun c_1 => ?_) (fun c_1 => ?_)
    · have h := it_ c_1 h
      refine a_iload_n C0 dX4_sumFrom_26 rfl 2 rfl ?_
      refine a_sipush C0 (255 : Int32) dX4_sumFrom_27 (by decide) ?_
      refine a_iand C0 dX4_sumFrom_30 ?_
      obtain rfl := Option.some.inj h
      exact a_iret C0 dX4_sumFrom_31 rfl rfl
    · have h := ie_ c_1 h
      refine a_iload_n C0 dX4_sumFrom_12 rfl 2 rfl ?_
      refine a_aload_n C0 dX4_sumFrom_13 rfl 0 rfl ?_
      refine a_iload_n C0 dX4_sumFrom_14 rfl 3 rfl ?_
      obtain ⟨r_2, h_3, h⟩ := bd1_e h
      refine a_callVi C0 (wdX4_1 cA q0 q1 f0 f1) (As := [.int v3]) (rest := [.int v2]) (ctX4_byteAt l D cA q0 q1 v3 f0 f1 h_3) (cwV 1 C0.1.2.2.2.2 gX4_sumFrom_X4_byteAt rfl rfl rfl hdX4_byteAt ⟨Nat.le_of_ble_eq_true rfl, Nat.le_of_ble_eq_true rfl⟩) [0, 1] [] [0, 1] rfl rfl rfl rfl (by decide) rfl rfl rfl rfl rfl rfl (Nat.le_of_ble_eq_true rfl) dX4_sumFrom_15 ⟨Nat.zero_le _, Nat.zero_le _⟩ ?_
      refine a_iadd C0 dX4_sumFrom_18 ?_
      obtain ⟨x_4, ex_4, h⟩ := lt_e h
      refine a_topi ex_4 ?_
      refine a_istore_n C0 [(2, .int x_4), (0, .ref q0), (1, .int a1), (3, .int v3)] dX4_sumFrom_19 rfl (by decide) rfl ?_
      obtain ⟨x_5, ex_5, h⟩ := lt_e h
      refine a_iinc C0 x_5 [(3, .int x_5), (2, .int x_4), (0, .ref q0), (1, .int a1)] dX4_sumFrom_20 3 rfl (by subst ex_5; rfl) (by decide) rfl ?_
      refine a_goto C0 4 dX4_sumFrom_23 (by decide) ?_
      refine a_lv [2, 3, 1, 0] (lv' := [(0, .ref q0), (1, .int a1), (2, .int x_4), (3, .int x_5)]) rfl ?_
      exact hrc4 x_4 x_5 h
set_option maxHeartbeats 4000000 in
set_option maxRecDepth 100000 in
theorem bwX4_sumFrom {p : Program} {l : Launch} {e : Env} {s : State} {m : MethodId} {args : Array Value} {below : List Frame} {meth : Method} {c : Code} {D : va_G} {A : Nat → Prop} {cA : ClassId} {q0 q1 : Nat} {res : Int32} (C0 : cx p s m args meth c cX4_sumFrom 4 RX4 wsX4_sumFrom (some .int) D vwCl [(cA, .int)] A) (N : Nat) (a1 : Int32) (f0 : Nat → Int32) (f1 : Nat → Int32) (h : pX4_sumFrom N a1 f0 f1 = some res) : At_ p l e (rmX4_sumFrom) s m args below meth c D vwCl A 4 0 0 (Qi_ below args s D vwCl A (wdX4_1 cA q0 q1 f0 f1) res) 0 [(0, .ref q0), (1, .int a1)] [] (wdX4_1 cA q0 q1 f0 f1) := by
  unfold pX4_sumFrom at h
  refine a_iconst C0 (0 : Int32) dX4_sumFrom_0 (by decide) ?_
  refine a_istore_n C0 [(2, .int (0 : Int32)), (0, .ref q0), (1, .int a1)] dX4_sumFrom_1 rfl (by decide) rfl ?_
  refine a_iload_n C0 dX4_sumFrom_2 rfl 2 rfl ?_
  refine a_istore_n C0 [(3, .int a1), (2, .int (0 : Int32)), (0, .ref q0), (1, .int a1)] dX4_sumFrom_3 rfl (by decide) rfl ?_
  refine a_lv [2, 3, 1, 0] (lv' := [(0, .ref q0), (1, .int a1), (2, .int (0 : Int32)), (3, .int a1)]) rfl ?_
  exact bwX4_sumFrom_4 C0 N a1 f0 f1 N (0 : Int32) a1 h
set_option maxRecDepth 100000 in
theorem ctX4_sumFrom (l : Launch) (D : va_G) (cA : ClassId) (q0 q1 : Nat) (N : Nat) (a1 : Int32) (f0 : Nat → Int32) (f1 : Nat → Int32) {res : Int32} (h : pX4_sumFrom N a1 f0 f1 = some res) : Cti l yX4_sumFrom wsX4_sumFrom (rmX4_sumFrom) D vwCl [(cA, .int)] [.ref q0, .int a1] (wdX4_1 cA q0 q1 f0 f1) (wdX4_1 cA q0 q1 f0 f1) 0 0 res :=
  ct_i (maxL := 4) (cc := cX4_sumFrom) (by decide) rfl (Nat.le_of_ble_eq_true rfl) (fun p e s m below meth c C0 => bwX4_sumFrom C0 N a1 f0 f1 h)
/-! PackDrawer$Stream.keep -/
abbrev rmX5_keep : Room := { frames := 0, cells := 0, slots := 0, locals := 0 }
theorem lkX5_keep_15 : Cond.fieldLink RX5 15 RX5 (TX5 1).2.1 (TX5 1).2.2.1 ∈ wsX5_keep := by decide +kernel
theorem inX5_keep_X5 : ∀ w ∈ u_ws RX5 TX5 2, w ∈ wsX5_keep := by decide +kernel
def pX5_keep (a1 : Int32) (f0 : Nat → Int32) : Option ((Nat → Int32)) := if a1 < 0 then some f0 else if (f0 1) ≤ a1 then some f0 else lt_ (upd f0 1 a1) (fun f0_3 => some f0_3)
set_option maxHeartbeats 4000000 in
set_option maxRecDepth 100000 in
theorem bwX5_keep {p : Program} {l : Launch} {e : Env} {s : State} {m : MethodId} {args : Array Value} {below : List Frame} {meth : Method} {c : Code} {D : va_G} {A : Nat → Prop} {cA : ClassId} {q0 q1 : Nat} {res : (Nat → Int32)} (C0 : cx p s m args meth c cX5_keep 2 RX5 wsX5_keep none D vwCl [(cA, .int)] A) (a1 : Int32) (f0 : Nat → Int32) (h : pX5_keep a1 f0 = some res) : At_ p l e (rmX5_keep) s m args below meth c D vwCl A 2 0 0 (Qv_ below args s D vwCl A (wdX5_0 cA q0 q1 res)) 0 [(0, .ref q0), (1, .int a1)] [] (wdX5_0 cA q0 q1 f0) := by
  unfold pX5_keep at h
  refine a_iload_n C0 dX5_keep_0 rfl 1 rfl ?_
  refine a_if_lt C0 17 dX5_keep_1 (by decide) (fun c_1 => ?_) (fun c_1 => ?_)
  · have h := it_ c_1 h
    obtain rfl := Option.some.inj h
    exact a_vret C0 dX5_keep_17 rfl
  · have h := ie_ c_1 h
    refine a_iload_n C0 dX5_keep_4 rfl 1 rfl ?_
    refine a_aload_n C0 dX5_keep_5 rfl 0 rfl ?_
    refine a_get C0 inX5_keep_X5 0 rfl rfl 1 (by decide) lkX5_keep_15 (fun _ h9 => h9) (.int (f0 1)) rfl dX5_keep_6 ?_
    refine a_icmp_ge C0 17 dX5_keep_9 (by decide) (fun c_2 => ?_) (fun c_2 => ?_)
    · have h := it_ c_2 h
      obtain rfl := Option.some.inj h
      exact a_vret C0 dX5_keep_17 rfl
    · have h := ie_ c_2 h
      refine a_aload_n C0 dX5_keep_12 rfl 0 rfl ?_
      refine a_iload_n C0 dX5_keep_13 rfl 1 rfl ?_
      obtain ⟨f0_3, ef0_3, h⟩ := lt_e h
      refine a_put C0 inX5_keep_X5 tyX5 tyX5_ok nmX5 0 rfl rfl 1 (by decide) lkX5_keep_15 (fun _ h9 => h9) rfl (ty := .int) (v := .int a1) (by decide +kernel) rfl rfl (Nat.le_of_ble_eq_true rfl) dX5_keep_14 (wdX5_0 cA q0 q1 f0_3) (by subst ef0_3; rfl) ?_
      obtain rfl := Option.some.inj h
      exact a_vret C0 dX5_keep_17 rfl
set_option maxRecDepth 100000 in
theorem ctX5_keep (l : Launch) (D : va_G) (cA : ClassId) (q0 q1 : Nat) (a1 : Int32) (f0 : Nat → Int32) {res : (Nat → Int32)} (h : pX5_keep a1 f0 = some res) : Ctv l yX5_keep wsX5_keep (rmX5_keep) D vwCl [(cA, .int)] [.ref q0, .int a1] (wdX5_0 cA q0 q1 f0) (wdX5_0 cA q0 q1 res) 0 0 :=
  ct_n (S := Unit) (maxL := 2) (cc := cX5_keep) (by decide) rfl (Nat.le_of_ble_eq_true rfl) (fun p e s m below meth c _ C0 => bwX5_keep C0 a1 f0 h)
/-! PackDrawer$Stream.append -/
abbrev rmX5_append : Room := { frames := 0, cells := 0, slots := 0, locals := 0 }
theorem lkX5_append_15 : Cond.fieldLink RX5 15 RX5 (TX5 1).2.1 (TX5 1).2.2.1 ∈ wsX5_append := by decide +kernel
theorem inX5_append_X5 : ∀ w ∈ u_ws RX5 TX5 2, w ∈ wsX5_append := by decide +kernel
theorem lkX5_append_9 : Cond.fieldLink RX5 9 RX5 (TX5 0).2.1 (TX5 0).2.2.1 ∈ wsX5_append := by decide +kernel
def pX5_append (a1 : Int32) (f0 : Nat → Int32) (f1 : Nat → Int32) : Option ((Nat → Int32) × (Nat → Int32)) := if (160 : Int32) ≤ (f0 1) then some (f0, f1) else gi_ (f0 1) 160 (lt_ (upd f1 (f0 1).toNatClampNeg a1) (fun f1_3 => lt_ (upd f0 1 ((f0 1) + (1 : Int32))) (fun f0_4 => some (f0_4, f1_3))))
set_option maxHeartbeats 4000000 in
set_option maxRecDepth 100000 in
theorem bwX5_append {p : Program} {l : Launch} {e : Env} {s : State} {m : MethodId} {args : Array Value} {below : List Frame} {meth : Method} {c : Code} {D : va_G} {A : Nat → Prop} {cA : ClassId} {q0 q1 : Nat} {res : (Nat → Int32) × (Nat → Int32)} (C0 : cx p s m args meth c cX5_append 2 RX5 wsX5_append none D vwCl [(cA, .int)] A) (a1 : Int32) (f0 : Nat → Int32) (f1 : Nat → Int32) (h : pX5_append a1 f0 f1 = some res) : At_ p l e (rmX5_append) s m args below meth c D vwCl A 2 0 0 (Qv_ below args s D vwCl A (wdX5_1 cA q0 q1 res.1 res.2)) 0 [(0, .ref q0), (1, .int a1)] [] (wdX5_1 cA q0 q1 f0 f1) := by
  unfold pX5_append at h
  refine a_aload_n C0 dX5_append_0 rfl 0 rfl ?_
  refine a_get C0 inX5_append_X5 0 rfl rfl 1 (by decide) lkX5_append_15 (fun _ h9 => h9) (.int (f0 1)) rfl dX5_append_1 ?_
  refine a_aload_n C0 dX5_append_4 rfl 0 rfl ?_
  refine a_get C0 inX5_append_X5 0 rfl rfl 0 (by decide) lkX5_append_9 (fun _ h9 => h9) (.ref q1) rfl dX5_append_5 ?_
  refine a_alen C0 1 0 rfl rfl (160 : Int32) rfl dX5_append_8 ?_
  refine a_icmp_ge C0 32 dX5_append_9 (by decide) (fun c_1 => ?_) (fun c_1 => ?_)
  · have h := it_ c_1 h
    obtain rfl := Option.some.inj h
    exact a_vret C0 dX5_append_32 rfl
  · have h := ie_ c_1 h
    refine a_aload_n C0 dX5_append_12 rfl 0 rfl ?_
    refine a_get C0 inX5_append_X5 0 rfl rfl 0 (by decide) lkX5_append_9 (fun _ h9 => h9) (.ref q1) rfl dX5_append_13 ?_
    refine a_aload_n C0 dX5_append_16 rfl 0 rfl ?_
    refine a_get C0 inX5_append_X5 0 rfl rfl 1 (by decide) lkX5_append_15 (fun _ h9 => h9) (.int (f0 1)) rfl dX5_append_17 ?_
    refine a_iload_n C0 dX5_append_20 rfl 1 rfl ?_
    obtain ⟨g_2, h⟩ := gi_e h
    obtain ⟨f1_3, ef1_3, h⟩ := lt_e h
    refine a_iast C0 1 0 rfl rfl g_2 dX5_append_21 (wdX5_1 cA q0 q1 f0 f1_3) (by subst ef1_3; rfl) ?_
    refine a_aload_n C0 dX5_append_22 rfl 0 rfl ?_
    refine a_dup C0 dX5_append_23 rfl ?_
    refine a_get C0 inX5_append_X5 0 rfl rfl 1 (by decide) lkX5_append_15 (fun _ h9 => h9) (.int (f0 1)) rfl dX5_append_24 ?_
    refine a_iconst C0 (1 : Int32) dX5_append_27 (by decide) ?_
    refine a_iadd C0 dX5_append_28 ?_
    obtain ⟨f0_4, ef0_4, h⟩ := lt_e h
    refine a_put C0 inX5_append_X5 tyX5 tyX5_ok nmX5 0 rfl rfl 1 (by decide) lkX5_append_15 (fun _ h9 => h9) rfl (ty := .int) (v := .int ((f0 1) + (1 : Int32))) (by decide +kernel) rfl rfl (Nat.le_of_ble_eq_true rfl) dX5_append_29 (wdX5_1 cA q0 q1 f0_4 f1_3) (by subst ef0_4; rfl) ?_
    obtain rfl := Option.some.inj h
    exact a_vret C0 dX5_append_32 rfl
set_option maxRecDepth 100000 in
theorem ctX5_append (l : Launch) (D : va_G) (cA : ClassId) (q0 q1 : Nat) (a1 : Int32) (f0 : Nat → Int32) (f1 : Nat → Int32) {res : (Nat → Int32) × (Nat → Int32)} (h : pX5_append a1 f0 f1 = some res) : Ctv l yX5_append wsX5_append (rmX5_append) D vwCl [(cA, .int)] [.ref q0, .int a1] (wdX5_1 cA q0 q1 f0 f1) (wdX5_1 cA q0 q1 res.1 res.2) 0 0 :=
  ct_n (S := Unit) (maxL := 2) (cc := cX5_append) (by decide) rfl (Nat.le_of_ble_eq_true rfl) (fun p e s m below meth c _ C0 => bwX5_append C0 a1 f0 f1 h)
/-! PackDrawer$Stream.change -/
abbrev rmX5_change : Room := { frames := 1, cells := 0, slots := 0, locals := 21 }
theorem lkX5_change_9 : Cond.fieldLink RX5 9 RX5 (TX5 0).2.1 (TX5 0).2.2.1 ∈ wsX5_change := by decide +kernel
theorem inX5_change_X5 : ∀ w ∈ u_ws RX5 TX5 2, w ∈ wsX5_change := by decide +kernel
def pX5_change (a1 : Int32) (a2 : Int32) (f0 : Nat → Int32) (f1 : Nat → Int32) : Option ((Nat → Int32)) := bd1 (pX5_has a1 f0) (fun r_1 => if r_1 = 0 then some f1 else gi_ a1 160 (lt_ (upd f1 a1.toNatClampNeg a2) (fun f1_5 => some f1_5)))
set_option maxHeartbeats 4000000 in
set_option maxRecDepth 100000 in
theorem bwX5_change {p : Program} {l : Launch} {e : Env} {s : State} {m : MethodId} {args : Array Value} {below : List Frame} {meth : Method} {c : Code} {D : va_G} {A : Nat → Prop} {cA : ClassId} {q0 q1 : Nat} {res : (Nat → Int32)} (C0 : cx p s m args meth c cX5_change 3 RX5 wsX5_change none D vwCl [(cA, .int)] A) (a1 : Int32) (a2 : Int32) (f0 : Nat → Int32) (f1 : Nat → Int32) (h : pX5_change a1 a2 f0 f1 = some res) : At_ p l e (rmX5_change) s m args below meth c D vwCl A 3 0 0 (Qv_ below args s D vwCl A (wdX5_1 cA q0 q1 f0 res)) 0 [(0, .ref q0), (1, .int a1), (2, .int a2)] [] (wdX5_1 cA q0 q1 f0 f1) := by
  unfold pX5_change at h
  refine a_aload_n C0 dX5_change_0 rfl 0 rfl ?_
  refine a_iload_n C0 dX5_change_1 rfl 1 rfl ?_
  obtain ⟨r_1, h_2, h⟩ := bd1_e h
  refine a_callVi C0 (wdX5_1 cA q0 q1 f0 f1) (As := [.int a1]) (rest := []) (ctX5_has l D cA q0 q1 a1 f0 h_2) (cwV 1 C0.1.2.2.2.2 gX5_change_X5_has rfl rfl rfl hdX5_has ⟨Nat.le_of_ble_eq_true rfl, Nat.le_of_ble_eq_true rfl⟩) [0] [1] [1, 0] rfl rfl rfl rfl (by decide) rfl rfl rfl rfl rfl rfl (Nat.le_of_ble_eq_true rfl) dX5_change_2 ⟨Nat.zero_le _, Nat.zero_le _⟩ ?_
  refine a_if_eq C0 15 dX5_change_5 (by decide) (fun c_3 => ?_) (fun c_3 => ?_)
  · have h := it_ c_3 h
    obtain rfl := Option.some.inj h
    exact a_vret C0 dX5_change_15 rfl
  · have h := ie_ c_3 h
    refine a_aload_n C0 dX5_change_8 rfl 0 rfl ?_
    refine a_get C0 inX5_change_X5 0 rfl rfl 0 (by decide) lkX5_change_9 (fun _ h9 => h9) (.ref q1) rfl dX5_change_9 ?_
    refine a_iload_n C0 dX5_change_12 rfl 1 rfl ?_
    refine a_iload_n C0 dX5_change_13 rfl 2 rfl ?_
    obtain ⟨g_4, h⟩ := gi_e h
    obtain ⟨f1_5, ef1_5, h⟩ := lt_e h
    refine a_iast C0 1 0 rfl rfl g_4 dX5_change_14 (wdX5_1 cA q0 q1 f0 f1_5) (by subst ef1_5; rfl) ?_
    obtain rfl := Option.some.inj h
    exact a_vret C0 dX5_change_15 rfl
set_option maxRecDepth 100000 in
theorem ctX5_change (l : Launch) (D : va_G) (cA : ClassId) (q0 q1 : Nat) (a1 : Int32) (a2 : Int32) (f0 : Nat → Int32) (f1 : Nat → Int32) {res : (Nat → Int32)} (h : pX5_change a1 a2 f0 f1 = some res) : Ctv l yX5_change wsX5_change (rmX5_change) D vwCl [(cA, .int)] [.ref q0, .int a1, .int a2] (wdX5_1 cA q0 q1 f0 f1) (wdX5_1 cA q0 q1 f0 res) 0 0 :=
  ct_n (S := Unit) (maxL := 3) (cc := cX5_change) (by decide) rfl (Nat.le_of_ble_eq_true rfl) (fun p e s m below meth c _ C0 => bwX5_change C0 a1 a2 f0 f1 h)
/-! PackDrawer$Stream.isFull -/
abbrev rmX5_isFull : Room := { frames := 0, cells := 0, slots := 0, locals := 0 }
theorem lkX5_isFull_15 : Cond.fieldLink RX5 15 RX5 (TX5 1).2.1 (TX5 1).2.2.1 ∈ wsX5_isFull := by decide +kernel
theorem inX5_isFull_X5 : ∀ w ∈ u_ws RX5 TX5 2, w ∈ wsX5_isFull := by decide +kernel
theorem lkX5_isFull_9 : Cond.fieldLink RX5 9 RX5 (TX5 0).2.1 (TX5 0).2.2.1 ∈ wsX5_isFull := by decide +kernel
def pX5_isFull (f0 : Nat → Int32) (f1 : Nat → Int32) : Option (Int32) := if (f0 1) < (160 : Int32) then some (0 : Int32) else some (1 : Int32)
set_option maxHeartbeats 4000000 in
set_option maxRecDepth 100000 in
theorem bwX5_isFull {p : Program} {l : Launch} {e : Env} {s : State} {m : MethodId} {args : Array Value} {below : List Frame} {meth : Method} {c : Code} {D : va_G} {A : Nat → Prop} {cA : ClassId} {q0 q1 : Nat} {res : Int32} (C0 : cx p s m args meth c cX5_isFull 1 RX5 wsX5_isFull (some .boolean) D vwCl [(cA, .int)] A) (f0 : Nat → Int32) (f1 : Nat → Int32) (h : pX5_isFull f0 f1 = some res) : At_ p l e (rmX5_isFull) s m args below meth c D vwCl A 1 0 0 (Qi_ below args s D vwCl A (wdX5_1 cA q0 q1 f0 f1) res) 0 [(0, .ref q0)] [] (wdX5_1 cA q0 q1 f0 f1) := by
  unfold pX5_isFull at h
  refine a_aload_n C0 dX5_isFull_0 rfl 0 rfl ?_
  refine a_get C0 inX5_isFull_X5 0 rfl rfl 1 (by decide) lkX5_isFull_15 (fun _ h9 => h9) (.int (f0 1)) rfl dX5_isFull_1 ?_
  refine a_aload_n C0 dX5_isFull_4 rfl 0 rfl ?_
  refine a_get C0 inX5_isFull_X5 0 rfl rfl 0 (by decide) lkX5_isFull_9 (fun _ h9 => h9) (.ref q1) rfl dX5_isFull_5 ?_
  refine a_alen C0 1 0 rfl rfl (160 : Int32) rfl dX5_isFull_8 ?_
  refine a_icmp_lt C0 16 dX5_isFull_9 (by decide) (fun c_1 => ?_) (fun c_1 => ?_)
  · have h := it_ c_1 h
    refine a_iconst C0 (0 : Int32) dX5_isFull_16 (by decide) ?_
    obtain rfl := Option.some.inj h
    exact a_zret C0 dX5_isFull_17 rfl rfl rfl
  · have h := ie_ c_1 h
    refine a_iconst C0 (1 : Int32) dX5_isFull_12 (by decide) ?_
    refine a_goto C0 17 dX5_isFull_13 (by decide) ?_
    obtain rfl := Option.some.inj h
    exact a_zret C0 dX5_isFull_17 rfl rfl rfl
set_option maxRecDepth 100000 in
theorem ctX5_isFull (l : Launch) (D : va_G) (cA : ClassId) (q0 q1 : Nat) (f0 : Nat → Int32) (f1 : Nat → Int32) {res : Int32} (h : pX5_isFull f0 f1 = some res) : Cti l yX5_isFull wsX5_isFull (rmX5_isFull) D vwCl [(cA, .int)] [.ref q0] (wdX5_1 cA q0 q1 f0 f1) (wdX5_1 cA q0 q1 f0 f1) 0 0 res :=
  ct_i (maxL := 1) (cc := cX5_isFull) (by decide) rfl (Nat.le_of_ble_eq_true rfl) (fun p e s m below meth c C0 => bwX5_isFull C0 f0 f1 h)
/-! PackDrawer$Stream.leaveOut -/
abbrev rmX5_leaveOut : Room := { frames := 1, cells := 0, slots := 0, locals := 30 }
theorem lkX5_leaveOut_9 : Cond.fieldLink RX5 9 RX5 (TX5 0).2.1 (TX5 0).2.2.1 ∈ wsX5_leaveOut := by decide +kernel
theorem inX5_leaveOut_X5 : ∀ w ∈ u_ws RX5 TX5 2, w ∈ wsX5_leaveOut := by decide +kernel
theorem lkX5_leaveOut_15 : Cond.fieldLink RX5 15 RX5 (TX5 1).2.1 (TX5 1).2.2.1 ∈ wsX5_leaveOut := by decide +kernel
theorem mkX5_leaveOut_23 : Cond.methodLink RX5 23 arraycopyName ∈ wsX5_leaveOut := by decide +kernel
theorem mnX5_leaveOut : Cond.native arraycopyName ∈ wsX5_leaveOut := by decide +kernel
theorem msX5_leaveOut : Cond.static arraycopyName ∈ wsX5_leaveOut := by decide +kernel
theorem miX5_leaveOut : Cond.initialized "java/lang/System" ∈ wsX5_leaveOut := by decide +kernel
def pX5_leaveOut (a1 : Int32) (f0 : Nat → Int32) (f1 : Nat → Int32) : Option ((Nat → Int32) × (Nat → Int32)) := bd1 (pX5_has a1 f0) (fun r_1 => if r_1 = 0 then some (f0, f1) else gz_ (ac_ (a1 + (1 : Int32)) a1 (((f0 1) - a1) - (1 : Int32)) 160 160) (lt_ (va_cpy f1 f1 (a1 + (1 : Int32)).toNatClampNeg a1.toNatClampNeg (((f0 1) - a1) - (1 : Int32)).toNatClampNeg) (fun f1_5 => lt_ (upd f0 1 ((f0 1) - (1 : Int32))) (fun f0_6 => some (f0_6, f1_5)))))
set_option maxHeartbeats 4000000 in
set_option maxRecDepth 100000 in
theorem bwX5_leaveOut {p : Program} {l : Launch} {e : Env} {s : State} {m : MethodId} {args : Array Value} {below : List Frame} {meth : Method} {c : Code} {D : va_G} {A : Nat → Prop} {cA : ClassId} {q0 q1 : Nat} {res : (Nat → Int32) × (Nat → Int32)} (C0 : cx p s m args meth c cX5_leaveOut 2 RX5 wsX5_leaveOut none D vwCl [(cA, .int)] A) (a1 : Int32) (f0 : Nat → Int32) (f1 : Nat → Int32) (h : pX5_leaveOut a1 f0 f1 = some res) : At_ p l e (rmX5_leaveOut) s m args below meth c D vwCl A 2 0 0 (Qv_ below args s D vwCl A (wdX5_1 cA q0 q1 res.1 res.2)) 0 [(0, .ref q0), (1, .int a1)] [] (wdX5_1 cA q0 q1 f0 f1) := by
  unfold pX5_leaveOut at h
  refine a_aload_n C0 dX5_leaveOut_0 rfl 0 rfl ?_
  refine a_iload_n C0 dX5_leaveOut_1 rfl 1 rfl ?_
  obtain ⟨r_1, h_2, h⟩ := bd1_e h
  refine a_callVi C0 (wdX5_1 cA q0 q1 f0 f1) (As := [.int a1]) (rest := []) (ctX5_has l D cA q0 q1 a1 f0 h_2) (cwV 1 C0.1.2.2.2.2 gX5_leaveOut_X5_has rfl rfl rfl hdX5_has ⟨Nat.le_of_ble_eq_true rfl, Nat.le_of_ble_eq_true rfl⟩) [0] [1] [1, 0] rfl rfl rfl rfl (by decide) rfl rfl rfl rfl rfl rfl (Nat.le_of_ble_eq_true rfl) dX5_leaveOut_2 ⟨Nat.zero_le _, Nat.zero_le _⟩ ?_
  refine a_if_eq C0 41 dX5_leaveOut_5 (by decide) (fun c_3 => ?_) (fun c_3 => ?_)
  · have h := it_ c_3 h
    obtain rfl := Option.some.inj h
    exact a_vret C0 dX5_leaveOut_41 rfl
  · have h := ie_ c_3 h
    refine a_aload_n C0 dX5_leaveOut_8 rfl 0 rfl ?_
    refine a_get C0 inX5_leaveOut_X5 0 rfl rfl 0 (by decide) lkX5_leaveOut_9 (fun _ h9 => h9) (.ref q1) rfl dX5_leaveOut_9 ?_
    refine a_iload_n C0 dX5_leaveOut_12 rfl 1 rfl ?_
    refine a_iconst C0 (1 : Int32) dX5_leaveOut_13 (by decide) ?_
    refine a_iadd C0 dX5_leaveOut_14 ?_
    refine a_aload_n C0 dX5_leaveOut_15 rfl 0 rfl ?_
    refine a_get C0 inX5_leaveOut_X5 0 rfl rfl 0 (by decide) lkX5_leaveOut_9 (fun _ h9 => h9) (.ref q1) rfl dX5_leaveOut_16 ?_
    refine a_iload_n C0 dX5_leaveOut_19 rfl 1 rfl ?_
    refine a_aload_n C0 dX5_leaveOut_20 rfl 0 rfl ?_
    refine a_get C0 inX5_leaveOut_X5 0 rfl rfl 1 (by decide) lkX5_leaveOut_15 (fun _ h9 => h9) (.int (f0 1)) rfl dX5_leaveOut_21 ?_
    refine a_iload_n C0 dX5_leaveOut_24 rfl 1 rfl ?_
    refine a_isub C0 dX5_leaveOut_25 ?_
    refine a_iconst C0 (1 : Int32) dX5_leaveOut_26 (by decide) ?_
    refine a_isub C0 dX5_leaveOut_27 ?_
    obtain ⟨g_4, h⟩ := gz_e h
    obtain ⟨f1_5, ef1_5, h⟩ := lt_e h
    refine a_copyi C0 mkX5_leaveOut_23 mnX5_leaveOut msX5_leaveOut miX5_leaveOut 1 1 0 0 rfl rfl rfl rfl rfl (ac_e g_4).1 (ac_e g_4).2.1 (ac_e g_4).2.2.1 (ac_e g_4).2.2.2.1 (ac_e g_4).2.2.2.2 (fun _ _ => rfl) (Nat.le_of_ble_eq_true rfl) (Nat.le_of_ble_eq_true rfl) dX5_leaveOut_28 (wdX5_1 cA q0 q1 f0 f1_5) (by subst ef1_5; rfl) ?_
    refine a_aload_n C0 dX5_leaveOut_31 rfl 0 rfl ?_
    refine a_dup C0 dX5_leaveOut_32 rfl ?_
    refine a_get C0 inX5_leaveOut_X5 0 rfl rfl 1 (by decide) lkX5_leaveOut_15 (fun _ h9 => h9) (.int (f0 1)) rfl dX5_leaveOut_33 ?_
    refine a_iconst C0 (1 : Int32) dX5_leaveOut_36 (by decide) ?_
    refine a_isub C0 dX5_leaveOut_37 ?_
    obtain ⟨f0_6, ef0_6, h⟩ := lt_e h
    refine a_put C0 inX5_leaveOut_X5 tyX5 tyX5_ok nmX5 0 rfl rfl 1 (by decide) lkX5_leaveOut_15 (fun _ h9 => h9) rfl (ty := .int) (v := .int ((f0 1) - (1 : Int32))) (by decide +kernel) rfl rfl (Nat.le_of_ble_eq_true rfl) dX5_leaveOut_38 (wdX5_1 cA q0 q1 f0_6 f1_5) (by subst ef0_6; rfl) ?_
    obtain rfl := Option.some.inj h
    exact a_vret C0 dX5_leaveOut_41 rfl
set_option maxRecDepth 100000 in
theorem ctX5_leaveOut (l : Launch) (D : va_G) (cA : ClassId) (q0 q1 : Nat) (a1 : Int32) (f0 : Nat → Int32) (f1 : Nat → Int32) {res : (Nat → Int32) × (Nat → Int32)} (h : pX5_leaveOut a1 f0 f1 = some res) : Ctv l yX5_leaveOut wsX5_leaveOut (rmX5_leaveOut) D vwCl [(cA, .int)] [.ref q0, .int a1] (wdX5_1 cA q0 q1 f0 f1) (wdX5_1 cA q0 q1 res.1 res.2) 0 0 :=
  ct_n (S := Unit) (maxL := 2) (cc := cX5_leaveOut) (by decide) rfl (Nat.le_of_ble_eq_true rfl) (fun p e s m below meth c _ C0 => bwX5_leaveOut C0 a1 f0 f1 h)
/-! PackDrawer$Stream.become -/
abbrev wdX5_become_0 (cA : ClassId) (q0 q1 q2 q3 : Nat) (f0 : Nat → Int32) (f1 : Nat → Int32) (f2 : Nat → Int32) (f3 : Nat → Int32) : va_W := [(q0, .inr (5, [.ref q1, .int (f0 1)])), (q1, .inl (cA, 160, .inl f1)), (q2, .inr (5, [.ref q3, .int (f2 1)])), (q3, .inl (cA, 160, .inl f3))]
abbrev rmX5_become : Room := { frames := 1, cells := 0, slots := 0, locals := 30 }
theorem lkX5_become_9 : Cond.fieldLink RX5 9 RX5 (TX5 0).2.1 (TX5 0).2.2.1 ∈ wsX5_become := by decide +kernel
theorem inX5_become_X5 : ∀ w ∈ u_ws RX5 TX5 2, w ∈ wsX5_become := by decide +kernel
theorem lkX5_become_15 : Cond.fieldLink RX5 15 RX5 (TX5 1).2.1 (TX5 1).2.2.1 ∈ wsX5_become := by decide +kernel
theorem mkX5_become_23 : Cond.methodLink RX5 23 arraycopyName ∈ wsX5_become := by decide +kernel
theorem mnX5_become : Cond.native arraycopyName ∈ wsX5_become := by decide +kernel
theorem msX5_become : Cond.static arraycopyName ∈ wsX5_become := by decide +kernel
theorem miX5_become : Cond.initialized "java/lang/System" ∈ wsX5_become := by decide +kernel
def pX5_become (f0 : Nat → Int32) (f1 : Nat → Int32) (f2 : Nat → Int32) (f3 : Nat → Int32) : Option ((Nat → Int32) × (Nat → Int32)) := gz_ (ac_ (0 : Int32) (0 : Int32) (f2 1) 160 160) (lt_ (va_cpy f3 f1 (0 : Int32).toNatClampNeg (0 : Int32).toNatClampNeg (f2 1).toNatClampNeg) (fun f1_2 => lt_ (upd f0 1 (f2 1)) (fun f0_3 => some (f0_3, f1_2))))
set_option maxHeartbeats 4000000 in
set_option maxRecDepth 100000 in
theorem bwX5_become {p : Program} {l : Launch} {e : Env} {s : State} {m : MethodId} {args : Array Value} {below : List Frame} {meth : Method} {c : Code} {D : va_G} {A : Nat → Prop} {cA : ClassId} {q0 q1 q2 q3 : Nat} {res : (Nat → Int32) × (Nat → Int32)} (C0 : cx p s m args meth c cX5_become 2 RX5 wsX5_become none D vwCl [(cA, .int)] A) (f0 : Nat → Int32) (f1 : Nat → Int32) (f2 : Nat → Int32) (f3 : Nat → Int32) (h : pX5_become f0 f1 f2 f3 = some res) : At_ p l e (rmX5_become) s m args below meth c D vwCl A 2 0 0 (Qv_ below args s D vwCl A (wdX5_become_0 cA q0 q1 q2 q3 res.1 res.2 f2 f3)) 0 [(0, .ref q0), (1, .ref q2)] [] (wdX5_become_0 cA q0 q1 q2 q3 f0 f1 f2 f3) := by
  unfold pX5_become at h
  refine a_aload_n C0 dX5_become_0 rfl 1 rfl ?_
  refine a_get C0 inX5_become_X5 2 rfl rfl 0 (by decide) lkX5_become_9 (fun _ h9 => h9) (.ref q3) rfl dX5_become_1 ?_
  refine a_iconst C0 (0 : Int32) dX5_become_4 (by decide) ?_
  refine a_aload_n C0 dX5_become_5 rfl 0 rfl ?_
  refine a_get C0 inX5_become_X5 0 rfl rfl 0 (by decide) lkX5_become_9 (fun _ h9 => h9) (.ref q1) rfl dX5_become_6 ?_
  refine a_iconst C0 (0 : Int32) dX5_become_9 (by decide) ?_
  refine a_aload_n C0 dX5_become_10 rfl 1 rfl ?_
  refine a_get C0 inX5_become_X5 2 rfl rfl 1 (by decide) lkX5_become_15 (fun _ h9 => h9) (.int (f2 1)) rfl dX5_become_11 ?_
  obtain ⟨g_1, h⟩ := gz_e h
  obtain ⟨f1_2, ef1_2, h⟩ := lt_e h
  refine a_copyi C0 mkX5_become_23 mnX5_become msX5_become miX5_become 3 1 0 0 rfl rfl rfl rfl rfl (ac_e g_1).1 (ac_e g_1).2.1 (ac_e g_1).2.2.1 (ac_e g_1).2.2.2.1 (ac_e g_1).2.2.2.2 (fun _ _ => rfl) (Nat.le_of_ble_eq_true rfl) (Nat.le_of_ble_eq_true rfl) dX5_become_14 (wdX5_become_0 cA q0 q1 q2 q3 f0 f1_2 f2 f3) (by subst ef1_2; rfl) ?_
  refine a_aload_n C0 dX5_become_17 rfl 0 rfl ?_
  refine a_aload_n C0 dX5_become_18 rfl 1 rfl ?_
  refine a_get C0 inX5_become_X5 2 rfl rfl 1 (by decide) lkX5_become_15 (fun _ h9 => h9) (.int (f2 1)) rfl dX5_become_19 ?_
  obtain ⟨f0_3, ef0_3, h⟩ := lt_e h
  refine a_put C0 inX5_become_X5 tyX5 tyX5_ok nmX5 0 rfl rfl 1 (by decide) lkX5_become_15 (fun _ h9 => h9) rfl (ty := .int) (v := .int (f2 1)) (by decide +kernel) rfl rfl (Nat.le_of_ble_eq_true rfl) dX5_become_22 (wdX5_become_0 cA q0 q1 q2 q3 f0_3 f1_2 f2 f3) (by subst ef0_3; rfl) ?_
  obtain rfl := Option.some.inj h
  exact a_vret C0 dX5_become_25 rfl
set_option maxRecDepth 100000 in
theorem ctX5_become (l : Launch) (D : va_G) (cA : ClassId) (q0 q1 q2 q3 : Nat) (f0 : Nat → Int32) (f1 : Nat → Int32) (f2 : Nat → Int32) (f3 : Nat → Int32) {res : (Nat → Int32) × (Nat → Int32)} (h : pX5_become f0 f1 f2 f3 = some res) : Ctv l yX5_become wsX5_become (rmX5_become) D vwCl [(cA, .int)] [.ref q0, .ref q2] (wdX5_become_0 cA q0 q1 q2 q3 f0 f1 f2 f3) (wdX5_become_0 cA q0 q1 q2 q3 res.1 res.2 f2 f3) 0 0 :=
  ct_n (S := Unit) (maxL := 2) (cc := cX5_become) (by decide) rfl (Nat.le_of_ble_eq_true rfl) (fun p e s m below meth c _ C0 => bwX5_become C0 f0 f1 f2 f3 h)
