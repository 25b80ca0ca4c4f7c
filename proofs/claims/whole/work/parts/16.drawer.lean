/-! PackDrawer$Drawer.pick -/
abbrev wdX2_0 (cA : ClassId) (q0 q1 q3 : Nat) (f0 : Nat → Int32) (l0_2 : Int64) : va_W := [(q0, .inr (2, [.ref q1, .ref q3, .long l0_2, .int (f0 3), .int (f0 4)]))]
abbrev rmX2_pick : Room := { frames := 0, cells := 0, slots := 0, locals := 0 }
theorem lkX2_pick_31 : Cond.fieldLink RX2 31 RX2 (TX2 2).2.1 (TX2 2).2.2.1 ∈ wsX2_pick := by decide +kernel
theorem inX2_pick_X2 : ∀ w ∈ u_ws RX2 TX2 5, w ∈ wsX2_pick := by decide +kernel
theorem lkX2_pick_45 : Cond.constantLong RX2 45 (-7046029254386353131 : Int64) ∈ wsX2_pick := by decide +kernel
theorem lkX2_pick_47 : Cond.constantLong RX2 47 (-4658895280553007687 : Int64) ∈ wsX2_pick := by decide +kernel
theorem lkX2_pick_49 : Cond.constantLong RX2 49 (-7723592293110705685 : Int64) ∈ wsX2_pick := by decide +kernel
def pX2_pick (a1 : Int32) (f0 : Nat → Int32) (l0_2 : Int64) : Option (Int32 × Int64) := lt_ ((l0_2 + (-7046029254386353131 : Int64))) (fun y_1 => lt_ (((y_1 ^^^ (y_1.toUInt64 >>> ((30 : Int32).toInt64.toUInt64 &&& Int64.toUInt64 63)).toInt64) * (-4658895280553007687 : Int64))) (fun x_2 => lt_ (((x_2 ^^^ (x_2.toUInt64 >>> ((27 : Int32).toInt64.toUInt64 &&& Int64.toUInt64 63)).toInt64) * (-7723592293110705685 : Int64))) (fun x_3 => lt_ ((x_3 ^^^ (x_3.toUInt64 >>> ((31 : Int32).toInt64.toUInt64 &&& Int64.toUInt64 63)).toInt64)) (fun x_4 => if a1 ≤ 0 then some ((0 : Int32), y_1) else gz_ (decide (¬ a1.toInt64 = 0)) (some (((x_4.toUInt64 >>> ((33 : Int32).toInt64.toUInt64 &&& Int64.toUInt64 63)).toInt64 - (x_4.toUInt64 >>> ((33 : Int32).toInt64.toUInt64 &&& Int64.toUInt64 63)).toInt64 / a1.toInt64 * a1.toInt64).toInt32, y_1))))))
set_option maxHeartbeats 4000000 in
set_option maxRecDepth 100000 in
theorem bwX2_pick {p : Program} {l : Launch} {e : Env} {s : State} {m : MethodId} {args : Array Value} {below : List Frame} {meth : Method} {c : Code} {D : va_G} {A : Nat → Prop} {cA : ClassId} {q0 q1 q3 : Nat} {res : Int32 × Int64} (C0 : cx p s m args meth c cX2_pick 4 RX2 wsX2_pick (some .int) D vwCl [(cA, .int)] A) (a1 : Int32) (f0 : Nat → Int32) (l0_2 : Int64) (h : pX2_pick a1 f0 l0_2 = some res) : At_ p l e (rmX2_pick) s m args below meth c D vwCl A 4 0 0 (Qi_ below args s D vwCl A (wdX2_0 cA q0 q1 q3 f0 res.2) res.1) 0 [(0, .ref q0), (1, .int a1)] [] (wdX2_0 cA q0 q1 q3 f0 l0_2) := by
  unfold pX2_pick at h
  refine a_aload_n C0 dX2_pick_0 rfl 0 rfl ?_
  refine a_dup C0 dX2_pick_1 rfl ?_
  refine a_get C0 inX2_pick_X2 0 rfl rfl 2 (by decide) lkX2_pick_31 (fun _ h9 => h9) (.long l0_2) rfl dX2_pick_2 ?_
  refine a_ldc2 C0 (-7046029254386353131 : Int64) lkX2_pick_45 dX2_pick_5 ?_
  refine a_ladd C0 dX2_pick_8 ?_
  obtain ⟨y_1, ey_1, h⟩ := lt_e h
  refine a_topl ey_1 ?_
  refine a_put C0 inX2_pick_X2 tyX2 tyX2_ok nmX2 0 rfl rfl 2 (by decide) lkX2_pick_31 (fun _ h9 => h9) rfl (ty := .long) (v := .long y_1) (by decide +kernel) rfl rfl (Nat.le_of_ble_eq_true rfl) dX2_pick_9 (wdX2_0 cA q0 q1 q3 f0 y_1) rfl ?_
  refine a_aload_n C0 dX2_pick_12 rfl 0 rfl ?_
  refine a_get C0 inX2_pick_X2 0 rfl rfl 2 (by decide) lkX2_pick_31 (fun _ h9 => h9) (.long y_1) rfl dX2_pick_13 ?_
  refine a_lstore_n C0 [(2, .long y_1), (0, .ref q0), (1, .int a1)] dX2_pick_16 rfl (by decide) rfl ?_
  refine a_lload_n C0 dX2_pick_17 rfl 0 rfl ?_
  refine a_lload_n C0 dX2_pick_18 rfl 0 rfl ?_
  refine a_bipush C0 (30 : Int32) dX2_pick_19 (by decide) ?_
  refine a_lushr C0 dX2_pick_21 ?_
  refine a_lxor C0 dX2_pick_22 ?_
  refine a_ldc2 C0 (-4658895280553007687 : Int64) lkX2_pick_47 dX2_pick_23 ?_
  refine a_lmul C0 dX2_pick_26 ?_
  obtain ⟨x_2, ex_2, h⟩ := lt_e h
  refine a_topl ex_2 ?_
  refine a_lstore_n C0 [(2, .long x_2), (0, .ref q0), (1, .int a1)] dX2_pick_27 rfl (by decide) rfl ?_
  refine a_lload_n C0 dX2_pick_28 rfl 0 rfl ?_
  refine a_lload_n C0 dX2_pick_29 rfl 0 rfl ?_
  refine a_bipush C0 (27 : Int32) dX2_pick_30 (by decide) ?_
  refine a_lushr C0 dX2_pick_32 ?_
  refine a_lxor C0 dX2_pick_33 ?_
  refine a_ldc2 C0 (-7723592293110705685 : Int64) lkX2_pick_49 dX2_pick_34 ?_
  refine a_lmul C0 dX2_pick_37 ?_
  obtain ⟨x_3, ex_3, h⟩ := lt_e h
  refine a_topl ex_3 ?_
  refine a_lstore_n C0 [(2, .long x_3), (0, .ref q0), (1, .int a1)] dX2_pick_38 rfl (by decide) rfl ?_
  refine a_lload_n C0 dX2_pick_39 rfl 0 rfl ?_
  refine a_lload_n C0 dX2_pick_40 rfl 0 rfl ?_
  refine a_bipush C0 (31 : Int32) dX2_pick_41 (by decide) ?_
  refine a_lushr C0 dX2_pick_43 ?_
  refine a_lxor C0 dX2_pick_44 ?_
  obtain ⟨x_4, ex_4, h⟩ := lt_e h
  refine a_topl ex_4 ?_
  refine a_lstore_n C0 [(2, .long x_4), (0, .ref q0), (1, .int a1)] dX2_pick_45 rfl (by decide) rfl ?_
  refine a_iload_n C0 dX2_pick_46 rfl 2 rfl ?_
  refine a_if_le C0 61 dX2_pick_47 (by decide) (fun c_5 => ?_) (fun c_5 => ?_)
  · have h := it_ c_5 h
    refine a_iconst C0 (0 : Int32) dX2_pick_61 (by decide) ?_
    obtain rfl := Option.some.inj h
    exact a_iret C0 dX2_pick_62 rfl rfl
  · have h := ie_ c_5 h
    refine a_lload_n C0 dX2_pick_50 rfl 0 rfl ?_
    refine a_bipush C0 (33 : Int32) dX2_pick_51 (by decide) ?_
    refine a_lushr C0 dX2_pick_53 ?_
    refine a_iload_n C0 dX2_pick_54 rfl 2 rfl ?_
    refine a_i2l C0 dX2_pick_55 ?_
    obtain ⟨g_6, h⟩ := gz_e h
    refine a_lrem C0 dX2_pick_56 (of_decide_eq_true g_6) ?_
    refine a_l2i C0 dX2_pick_57 ?_
    refine a_goto C0 62 dX2_pick_58 (by decide) ?_
    obtain rfl := Option.some.inj h
    exact a_iret C0 dX2_pick_62 rfl rfl
set_option maxRecDepth 100000 in
theorem ctX2_pick (l : Launch) (D : va_G) (cA : ClassId) (q0 q1 q3 : Nat) (a1 : Int32) (f0 : Nat → Int32) (l0_2 : Int64) {res : Int32 × Int64} (h : pX2_pick a1 f0 l0_2 = some res) : Cti l yX2_pick wsX2_pick (rmX2_pick) D vwCl [(cA, .int)] [.ref q0, .int a1] (wdX2_0 cA q0 q1 q3 f0 l0_2) (wdX2_0 cA q0 q1 q3 f0 res.2) 0 0 res.1 :=
  ct_i (maxL := 4) (cc := cX2_pick) (by decide) rfl (Nat.le_of_ble_eq_true rfl) (fun p e s m below meth c C0 => bwX2_pick C0 a1 f0 l0_2 h)
/-! PackDrawer$Drawer.drawEnd -/
abbrev wdX2_1 (cA : ClassId) (q0 q1 q2 q3 q4 : Nat) (f0 : Nat → Int32) (l0_2 : Int64) (f1 : Nat → Int32) (f2 : Nat → Int32) (f3 : Nat → Int32) (f4 : Nat → Int32) : va_W := [(q0, .inr (2, [.ref q1, .ref q3, .long l0_2, .int (f0 3), .int (f0 4)])), (q1, .inr (5, [.ref q2, .int (f1 1)])), (q2, .inl (cA, 160, .inl f2)), (q3, .inr (4, [.ref q4, .int (f3 1)])), (q4, .inl (cA, 800, .inl f4))]
theorem hdX5_append : yX5_append.cls = RX5 ∧ yX5_append.cls ≠ "java/lang/invoke/MethodHandle" ∧ yX5_append.cls ≠ "java/lang/invoke/VarHandle" ∧ (parseMethodDescriptor yX5_append.desc).map (fun d => d.parameters.length) = some 1 := by decide +kernel
abbrev rmX2_drawEnd : Room := { frames := 2, cells := 0, slots := 0, locals := 44 }
theorem lkX2_drawEnd_18 : Cond.fieldLink RX2 18 RX2 (TX2 0).2.1 (TX2 0).2.2.1 ∈ wsX2_drawEnd := by decide +kernel
theorem inX2_drawEnd_X2 : ∀ w ∈ u_ws RX2 TX2 5, w ∈ wsX2_drawEnd := by decide +kernel
theorem lkX2_drawEnd_12 : Cond.fieldLink RX2 12 RX2 (TX2 1).2.1 (TX2 1).2.2.1 ∈ wsX2_drawEnd := by decide +kernel
def pX2_drawEnd (N : Nat) (a1 : Int32) (f0 : Nat → Int32) (l0_2 : Int64) (f1 : Nat → Int32) (f2 : Nat → Int32) (f3 : Nat → Int32) (f4 : Nat → Int32) : Option ((Nat → Int32) × (Nat → Int32)) := bd2 (pX5_append (0 : Int32) f1 f2) (fun f1_1 f2_2 => bd1 (pX4_sumFrom N a1 f3 f4) (fun r_4 => bd2 (pX5_append r_4 f1_1 f2_2) (fun f1_6 f2_7 => some (f1_6, f2_7))))
set_option maxHeartbeats 4000000 in
set_option maxRecDepth 100000 in
theorem bwX2_drawEnd {p : Program} {l : Launch} {e : Env} {s : State} {m : MethodId} {args : Array Value} {below : List Frame} {meth : Method} {c : Code} {D : va_G} {A : Nat → Prop} {cA : ClassId} {q0 q1 q2 q3 q4 : Nat} {res : (Nat → Int32) × (Nat → Int32)} (C0 : cx p s m args meth c cX2_drawEnd 2 RX2 wsX2_drawEnd none D vwCl [(cA, .int)] A) (N : Nat) (a1 : Int32) (f0 : Nat → Int32) (l0_2 : Int64) (f1 : Nat → Int32) (f2 : Nat → Int32) (f3 : Nat → Int32) (f4 : Nat → Int32) (h : pX2_drawEnd N a1 f0 l0_2 f1 f2 f3 f4 = some res) : At_ p l e (rmX2_drawEnd) s m args below meth c D vwCl A 2 0 0 (Qv_ below args s D vwCl A (wdX2_1 cA q0 q1 q2 q3 q4 f0 l0_2 res.1 res.2 f3 f4)) 0 [(0, .ref q0), (1, .int a1)] [] (wdX2_1 cA q0 q1 q2 q3 q4 f0 l0_2 f1 f2 f3 f4) := by
  unfold pX2_drawEnd at h
  refine a_aload_n C0 dX2_drawEnd_0 rfl 0 rfl ?_
  refine a_get C0 inX2_drawEnd_X2 0 rfl rfl 0 (by decide) lkX2_drawEnd_18 (fun _ h9 => h9) (.ref q1) rfl dX2_drawEnd_1 ?_
  refine a_iconst C0 (0 : Int32) dX2_drawEnd_4 (by decide) ?_
  obtain ⟨f1_1, f2_2, h_3, h⟩ := bd2_e h
  refine a_callVv C0 (wdX2_1 cA q0 q1 q2 q3 q4 f0 l0_2 f1_1 f2_2 f3 f4) (As := [.int (0 : Int32)]) (rest := []) (ctX5_append l D cA q1 q2 (0 : Int32) f1 f2 h_3) (cwV 1 C0.1.2.2.2.2 gX2_drawEnd_X5_append rfl rfl rfl hdX5_append ⟨Nat.le_of_ble_eq_true rfl, Nat.le_of_ble_eq_true rfl⟩) [1, 2] [0, 3, 4] [0, 3, 4, 1, 2] rfl rfl rfl rfl (by decide) rfl rfl rfl rfl rfl rfl (Nat.le_of_ble_eq_true rfl) dX2_drawEnd_5 ⟨Nat.zero_le _, Nat.zero_le _⟩ ?_
  refine a_aload_n C0 dX2_drawEnd_8 rfl 0 rfl ?_
  refine a_get C0 inX2_drawEnd_X2 0 rfl rfl 0 (by decide) lkX2_drawEnd_18 (fun _ h9 => h9) (.ref q1) rfl dX2_drawEnd_9 ?_
  refine a_aload_n C0 dX2_drawEnd_12 rfl 0 rfl ?_
  refine a_get C0 inX2_drawEnd_X2 0 rfl rfl 1 (by decide) lkX2_drawEnd_12 (fun _ h9 => h9) (.ref q3) rfl dX2_drawEnd_13 ?_
  refine a_iload_n C0 dX2_drawEnd_16 rfl 1 rfl ?_
  obtain ⟨r_4, h_5, h⟩ := bd1_e h
  refine a_callVi C0 (wdX2_1 cA q0 q1 q2 q3 q4 f0 l0_2 f1_1 f2_2 f3 f4) (As := [.int a1]) (rest := [.ref q1]) (ctX4_sumFrom l D cA q3 q4 N a1 f3 f4 h_5) (cwV 1 C0.1.2.2.2.2 gX2_drawEnd_X4_sumFrom rfl rfl rfl hdX4_sumFrom ⟨Nat.le_of_ble_eq_true rfl, Nat.le_of_ble_eq_true rfl⟩) [3, 4] [0, 1, 2] [0, 1, 2, 3, 4] rfl rfl rfl rfl (by decide) rfl rfl rfl rfl rfl rfl (Nat.le_of_ble_eq_true rfl) dX2_drawEnd_17 ⟨Nat.zero_le _, Nat.zero_le _⟩ ?_
  obtain ⟨f1_6, f2_7, h_8, h⟩ := bd2_e h
  refine a_callVv C0 (wdX2_1 cA q0 q1 q2 q3 q4 f0 l0_2 f1_6 f2_7 f3 f4) (As := [.int r_4]) (rest := []) (ctX5_append l D cA q1 q2 r_4 f1_1 f2_2 h_8) (cwV 1 C0.1.2.2.2.2 gX2_drawEnd_X5_append rfl rfl rfl hdX5_append ⟨Nat.le_of_ble_eq_true rfl, Nat.le_of_ble_eq_true rfl⟩) [1, 2] [0, 3, 4] [0, 3, 4, 1, 2] rfl rfl rfl rfl (by decide) rfl rfl rfl rfl rfl rfl (Nat.le_of_ble_eq_true rfl) dX2_drawEnd_20 ⟨Nat.zero_le _, Nat.zero_le _⟩ ?_
  obtain rfl := Option.some.inj h
  exact a_vret C0 dX2_drawEnd_23 rfl
set_option maxRecDepth 100000 in
theorem ctX2_drawEnd (l : Launch) (D : va_G) (cA : ClassId) (q0 q1 q2 q3 q4 : Nat) (N : Nat) (a1 : Int32) (f0 : Nat → Int32) (l0_2 : Int64) (f1 : Nat → Int32) (f2 : Nat → Int32) (f3 : Nat → Int32) (f4 : Nat → Int32) {res : (Nat → Int32) × (Nat → Int32)} (h : pX2_drawEnd N a1 f0 l0_2 f1 f2 f3 f4 = some res) : Ctv l yX2_drawEnd wsX2_drawEnd (rmX2_drawEnd) D vwCl [(cA, .int)] [.ref q0, .int a1] (wdX2_1 cA q0 q1 q2 q3 q4 f0 l0_2 f1 f2 f3 f4) (wdX2_1 cA q0 q1 q2 q3 q4 f0 l0_2 res.1 res.2 f3 f4) 0 0 :=
  ct_n (S := Unit) (maxL := 2) (cc := cX2_drawEnd) (by decide) rfl (Nat.le_of_ble_eq_true rfl) (fun p e s m below meth c _ C0 => bwX2_drawEnd C0 N a1 f0 l0_2 f1 f2 f3 f4 h)
/-! PackDrawer$Drawer.drawBytes -/
theorem hdX2_pick : yX2_pick.cls = RX2 ∧ yX2_pick.cls ≠ "java/lang/invoke/MethodHandle" ∧ yX2_pick.cls ≠ "java/lang/invoke/VarHandle" ∧ (parseMethodDescriptor yX2_pick.desc).map (fun d => d.parameters.length) = some 1 := by decide +kernel
abbrev rmX2_drawBytes : Room := { frames := 1, cells := 0, slots := 0, locals := 23 }
theorem lkX2_drawBytes_18 : Cond.fieldLink RX2 18 RX2 (TX2 0).2.1 (TX2 0).2.2.1 ∈ wsX2_drawBytes := by decide +kernel
theorem inX2_drawBytes_X2 : ∀ w ∈ u_ws RX2 TX2 5, w ∈ wsX2_drawBytes := by decide +kernel
theorem lkX2_drawBytes_12 : Cond.fieldLink RX2 12 RX2 (TX2 1).2.1 (TX2 1).2.2.1 ∈ wsX2_drawBytes := by decide +kernel
theorem lkX2_drawBytes_35 : Cond.fieldLink RX2 35 RX2 (TX2 3).2.1 (TX2 3).2.2.1 ∈ wsX2_drawBytes := by decide +kernel
def bfX2_drawBytes_67 (N : Nat) (a1 : Int32) (f0 : Nat → Int32) (rc22 : Int32 → Int32 → Int64 → (Nat → Int32) → (Nat → Int32) → (Nat → Int32) → (Nat → Int32) → Option (Int64 × (Nat → Int32) × (Nat → Int32) × (Nat → Int32) × (Nat → Int32))) (v2 : Int32) (v3 : Int32) (v4 : Int32) (l0_2 : Int64) (f1 : Nat → Int32) (f2 : Nat → Int32) (f3 : Nat → Int32) (f4 : Nat → Int32) : Option (Int64 × (Nat → Int32) × (Nat → Int32) × (Nat → Int32) × (Nat → Int32)) := bd2 (pX5_append v4 f1 f2) (fun f1_1 f2_2 => bd2 (pX4_push v4 f3 f4) (fun f3_4 f4_5 => lt_ ((v3 + (1 : Int32))) (fun x_7 => rc22 v2 x_7 l0_2 f1_1 f2_2 f3_4 f4_5)))
def bFX2_drawBytes_22 (N : Nat) (a1 : Int32) (f0 : Nat → Int32) (rc22 : Int32 → Int32 → Int64 → (Nat → Int32) → (Nat → Int32) → (Nat → Int32) → (Nat → Int32) → Option (Int64 × (Nat → Int32) × (Nat → Int32) × (Nat → Int32) × (Nat → Int32))) (v2 : Int32) (v3 : Int32) (l0_2 : Int64) (f1 : Nat → Int32) (f2 : Nat → Int32) (f3 : Nat → Int32) (f4 : Nat → Int32) : Option (Int64 × (Nat → Int32) × (Nat → Int32) × (Nat → Int32) × (Nat → Int32)) := if a1 ≤ v3 then some (l0_2, f1, f2, f3, f4) else if (f0 3) = 0 then bd2 (pX2_pick (256 : Int32) f0 l0_2) (fun r_15 l0_2_16 => bfX2_drawBytes_67 N a1 f0 rc22 v2 v3 r_15 l0_2_16 f1 f2 f3 f4) else if (f0 3) = (1 : Int32) then bd2 (pX2_pick (3 : Int32) f0 l0_2) (fun r_11 l0_2_12 => lt_ (((97 : Int32) + r_11)) (fun x_14 => bfX2_drawBytes_67 N a1 f0 rc22 v2 v3 x_14 l0_2_12 f1 f2 f3 f4)) else bfX2_drawBytes_67 N a1 f0 rc22 v2 v3 v2 l0_2 f1 f2 f3 f4
def bfX2_drawBytes_22 (N : Nat) (a1 : Int32) (f0 : Nat → Int32) : Nat → Int32 → Int32 → Int64 → (Nat → Int32) → (Nat → Int32) → (Nat → Int32) → (Nat → Int32) → Option (Int64 × (Nat → Int32) × (Nat → Int32) × (Nat → Int32) × (Nat → Int32))
  | 0 => fun _ _ _ _ _ _ _ => none
  | n + 1 => bFX2_drawBytes_22 N a1 f0  (bfX2_drawBytes_22 N a1 f0  n)
def bfX2_drawBytes_19 (N : Nat) (a1 : Int32) (f0 : Nat → Int32) (s0 : Int32) (l0_2 : Int64) (f1 : Nat → Int32) (f2 : Nat → Int32) (f3 : Nat → Int32) (f4 : Nat → Int32) : Option (Int64 × (Nat → Int32) × (Nat → Int32) × (Nat → Int32) × (Nat → Int32)) := bfX2_drawBytes_22 N a1 f0 N s0 (0 : Int32) l0_2 f1 f2 f3 f4
def pX2_drawBytes (N : Nat) (a1 : Int32) (f0 : Nat → Int32) (l0_2 : Int64) (f1 : Nat → Int32) (f2 : Nat → Int32) (f3 : Nat → Int32) (f4 : Nat → Int32) : Option (Int64 × (Nat → Int32) × (Nat → Int32) × (Nat → Int32) × (Nat → Int32)) := if (f0 3) = (2 : Int32) then bd2 (pX2_pick (256 : Int32) f0 l0_2) (fun r_19 l0_2_20 => bfX2_drawBytes_19 N a1 f0 r_19 l0_2_20 f1 f2 f3 f4) else bfX2_drawBytes_19 N a1 f0 (0 : Int32) l0_2 f1 f2 f3 f4
set_option maxHeartbeats 4000000 in
set_option maxRecDepth 100000 in
theorem bwX2_drawBytes_67 {p : Program} {l : Launch} {e : Env} {s : State} {m : MethodId} {args : Array Value} {below : List Frame} {meth : Method} {c : Code} {D : va_G} {A : Nat → Prop} {cA : ClassId} {q0 q1 q2 q3 q4 : Nat} {res : Int64 × (Nat → Int32) × (Nat → Int32) × (Nat → Int32) × (Nat → Int32)} (C0 : cx p s m args meth c cX2_drawBytes 5 RX2 wsX2_drawBytes none D vwCl [(cA, .int)] A) (N : Nat) (a1 : Int32) (f0 : Nat → Int32) (rc22 : Int32 → Int32 → Int64 → (Nat → Int32) → (Nat → Int32) → (Nat → Int32) → (Nat → Int32) → Option (Int64 × (Nat → Int32) × (Nat → Int32) × (Nat → Int32) × (Nat → Int32))) (hrc22 : ∀ (v2 : Int32) (v3 : Int32) (l0_2 : Int64) (f1 : Nat → Int32) (f2 : Nat → Int32) (f3 : Nat → Int32) (f4 : Nat → Int32), rc22 v2 v3 l0_2 f1 f2 f3 f4 = some res → At_ p l e (rmX2_drawBytes) s m args below meth c D vwCl A 5 0 0 (Qv_ below args s D vwCl A (wdX2_1 cA q0 q1 q2 q3 q4 f0 res.1 res.2.1 res.2.2.1 res.2.2.2.1 res.2.2.2.2)) 22 [(0, .ref q0), (1, .int a1), (2, .int v2), (3, .int v3)] [] (wdX2_1 cA q0 q1 q2 q3 q4 f0 l0_2 f1 f2 f3 f4)) (v2 : Int32) (v3 : Int32) (v4 : Int32) (l0_2 : Int64) (f1 : Nat → Int32) (f2 : Nat → Int32) (f3 : Nat → Int32) (f4 : Nat → Int32) (h : bfX2_drawBytes_67 N a1 f0 rc22 v2 v3 v4 l0_2 f1 f2 f3 f4 = some res) : At_ p l e (rmX2_drawBytes) s m args below meth c D vwCl A 5 0 0 (Qv_ below args s D vwCl A (wdX2_1 cA q0 q1 q2 q3 q4 f0 res.1 res.2.1 res.2.2.1 res.2.2.2.1 res.2.2.2.2)) 67 [(0, .ref q0), (1, .int a1), (2, .int v2), (3, .int v3), (4, .int v4)] [] (wdX2_1 cA q0 q1 q2 q3 q4 f0 l0_2 f1 f2 f3 f4) := by
  unfold bfX2_drawBytes_67 at h
  refine a_aload_n C0 dX2_drawBytes_67 rfl 0 rfl ?_
  refine a_get C0 inX2_drawBytes_X2 0 rfl rfl 0 (by decide) lkX2_drawBytes_18 (fun _ h9 => h9) (.ref q1) rfl dX2_drawBytes_68 ?_
  refine a_iload C0 dX2_drawBytes_71 4 rfl ?_
  obtain ⟨f1_1, f2_2, h_3, h⟩ := bd2_e h
  refine a_callVv C0 (wdX2_1 cA q0 q1 q2 q3 q4 f0 l0_2 f1_1 f2_2 f3 f4) (As := [.int v4]) (rest := []) (ctX5_append l D cA q1 q2 v4 f1 f2 h_3) (cwV 1 C0.1.2.2.2.2 gX2_drawBytes_X5_append rfl rfl rfl hdX5_append ⟨Nat.le_of_ble_eq_true rfl, Nat.le_of_ble_eq_true rfl⟩) [1, 2] [0, 3, 4] [0, 3, 4, 1, 2] rfl rfl rfl rfl (by decide) rfl rfl rfl rfl rfl rfl (Nat.le_of_ble_eq_true rfl) dX2_drawBytes_73 ⟨Nat.zero_le _, Nat.zero_le _⟩ ?_
  refine a_aload_n C0 dX2_drawBytes_76 rfl 0 rfl ?_
  refine a_get C0 inX2_drawBytes_X2 0 rfl rfl 1 (by decide) lkX2_drawBytes_12 (fun _ h9 => h9) (.ref q3) rfl dX2_drawBytes_77 ?_
  refine a_iload C0 dX2_drawBytes_80 4 rfl ?_
  obtain ⟨f3_4, f4_5, h_6, h⟩ := bd2_e h
  refine a_callVv C0 (wdX2_1 cA q0 q1 q2 q3 q4 f0 l0_2 f1_1 f2_2 f3_4 f4_5) (As := [.int v4]) (rest := []) (ctX4_push l D cA q3 q4 v4 f3 f4 h_6) (cwV 1 C0.1.2.2.2.2 gX2_drawBytes_X4_push rfl rfl rfl hdX4_push ⟨Nat.le_of_ble_eq_true rfl, Nat.le_of_ble_eq_true rfl⟩) [3, 4] [0, 1, 2] [0, 1, 2, 3, 4] rfl rfl rfl rfl (by decide) rfl rfl rfl rfl rfl rfl (Nat.le_of_ble_eq_true rfl) dX2_drawBytes_82 ⟨Nat.zero_le _, Nat.zero_le _⟩ ?_
  obtain ⟨x_7, ex_7, h⟩ := lt_e h
  refine a_iinc C0 x_7 [(3, .int x_7), (0, .ref q0), (1, .int a1), (2, .int v2), (4, .int v4)] dX2_drawBytes_85 3 rfl (by subst ex_7; rfl) (by decide) rfl ?_
  refine a_goto C0 22 dX2_drawBytes_88 (by decide) ?_
  refine a_lv [1, 2, 3, 0] (lv' := [(0, .ref q0), (1, .int a1), (2, .int v2), (3, .int x_7)]) rfl ?_
  exact hrc22 v2 x_7 l0_2 f1_1 f2_2 f3_4 f4_5 h
set_option maxHeartbeats 4000000 in
set_option maxRecDepth 100000 in
theorem bwX2_drawBytes_22 {p : Program} {l : Launch} {e : Env} {s : State} {m : MethodId} {args : Array Value} {below : List Frame} {meth : Method} {c : Code} {D : va_G} {A : Nat → Prop} {cA : ClassId} {q0 q1 q2 q3 q4 : Nat} {res : Int64 × (Nat → Int32) × (Nat → Int32) × (Nat → Int32) × (Nat → Int32)} (C0 : cx p s m args meth c cX2_drawBytes 5 RX2 wsX2_drawBytes none D vwCl [(cA, .int)] A) (N : Nat) (a1 : Int32) (f0 : Nat → Int32) : ∀ (n : Nat) (v2 : Int32) (v3 : Int32) (l0_2 : Int64) (f1 : Nat → Int32) (f2 : Nat → Int32) (f3 : Nat → Int32) (f4 : Nat → Int32), bfX2_drawBytes_22 N a1 f0  n v2 v3 l0_2 f1 f2 f3 f4 = some res → At_ p l e (rmX2_drawBytes) s m args below meth c D vwCl A 5 0 0 (Qv_ below args s D vwCl A (wdX2_1 cA q0 q1 q2 q3 q4 f0 res.1 res.2.1 res.2.2.1 res.2.2.2.1 res.2.2.2.2)) 22 [(0, .ref q0), (1, .int a1), (2, .int v2), (3, .int v3)] [] (wdX2_1 cA q0 q1 q2 q3 q4 f0 l0_2 f1 f2 f3 f4) := by
  intro n
  induction n with
  | zero => intro v2 v3 l0_2 f1 f2 f3 f4 h; cases h
  | succ n hrc22 =>
    intro v2 v3 l0_2 f1 f2 f3 f4 h
    replace h : bFX2_drawBytes_22 N a1 f0  (bfX2_drawBytes_22 N a1 f0  n) v2 v3 l0_2 f1 f2 f3 f4 = some res := h
    generalize bfX2_drawBytes_22 N a1 f0  n = rc22 at h hrc22
    unfold bFX2_drawBytes_22 at h
    refine a_iload_n C0 dX2_drawBytes_22 rfl 3 rfl ?_
    refine a_iload_n C0 dX2_drawBytes_23 rfl 1 rfl ?_
    refine a_icmp_ge C0 91 dX2_drawBytes_24 (by decide) (fun c_8 => ?_) (fun c_8 => ?_)
    · have h := it_ c_8 h
      obtain rfl := Option.some.inj h
      exact a_vret C0 dX2_drawBytes_91 rfl
    · have h := ie_ c_8 h
      refine a_iload_n C0 dX2_drawBytes_27 rfl 2 rfl ?_
      refine a_istore C0 [(4, .int v2), (0, .ref q0), (1, .int a1), (2, .int v2), (3, .int v3)] dX2_drawBytes_28 (by decide) rfl ?_
      refine a_aload_n C0 dX2_drawBytes_30 rfl 1 rfl ?_
      refine a_get C0 inX2_drawBytes_X2 0 rfl rfl 3 (by decide) lkX2_drawBytes_35 (fun _ h9 => h9) (.int (f0 3)) rfl dX2_drawBytes_31 ?_
      refine a_if_ne C0 49 dX2_drawBytes_34 (by decide) (fun c_9 => ?_) (fun c_9 => ?_)
      · have h := ie_ c_9 h
        refine a_aload_n C0 dX2_drawBytes_49 rfl 1 rfl ?_
        refine a_get C0 inX2_drawBytes_X2 0 rfl rfl 3 (by decide) lkX2_drawBytes_35 (fun _ h9 => h9) (.int (f0 3)) rfl dX2_drawBytes_50 ?_
        refine a_iconst C0 (1 : Int32) dX2_drawBytes_53 (by decide) ?_
        refine a_icmp_ne C0 67 dX2_drawBytes_54 (by decide) (fun c_10 => ?_) (fun c_10 => ?_)
        · have h := ie_ c_10 h
          refine a_lv [1, 2, 3, 4, 0] (lv' := [(0, .ref q0), (1, .int a1), (2, .int v2), (3, .int v3), (4, .int v2)]) rfl ?_
          exact bwX2_drawBytes_67 C0 N a1 f0 rc22 hrc22 v2 v3 v2 l0_2 f1 f2 f3 f4 h
        · have h := it_ c_10 h
          refine a_bipush C0 (97 : Int32) dX2_drawBytes_57 (by decide) ?_
          refine a_aload_n C0 dX2_drawBytes_59 rfl 1 rfl ?_
          refine a_iconst C0 (3 : Int32) dX2_drawBytes_60 (by decide) ?_
          obtain ⟨r_11, l0_2_12, h_13, h⟩ := bd2_e h
          refine a_callVi C0 (wdX2_1 cA q0 q1 q2 q3 q4 f0 l0_2_12 f1 f2 f3 f4) (As := [.int (3 : Int32)]) (rest := [.int (97 : Int32)]) (ctX2_pick l D cA q0 q1 q3 (3 : Int32) f0 l0_2 h_13) (cwV 1 C0.1.2.2.2.2 gX2_drawBytes_X2_pick rfl rfl rfl hdX2_pick ⟨Nat.le_of_ble_eq_true rfl, Nat.le_of_ble_eq_true rfl⟩) [0] [1, 2, 3, 4] [4, 0, 1, 2, 3] rfl rfl rfl rfl (by decide) rfl rfl rfl rfl rfl rfl (Nat.le_of_ble_eq_true rfl) dX2_drawBytes_61 ⟨Nat.zero_le _, Nat.zero_le _⟩ ?_
          refine a_iadd C0 dX2_drawBytes_64 ?_
          obtain ⟨x_14, ex_14, h⟩ := lt_e h
          refine a_topi ex_14 ?_
          refine a_istore C0 [(4, .int x_14), (0, .ref q0), (1, .int a1), (2, .int v2), (3, .int v3)] dX2_drawBytes_65 (by decide) rfl ?_
          refine a_lv [1, 2, 3, 4, 0] (lv' := [(0, .ref q0), (1, .int a1), (2, .int v2), (3, .int v3), (4, .int x_14)]) rfl ?_
          exact bwX2_drawBytes_67 C0 N a1 f0 rc22 hrc22 v2 v3 x_14 l0_2_12 f1 f2 f3 f4 h
      · have h := it_ c_9 h
        refine a_aload_n C0 dX2_drawBytes_37 rfl 1 rfl ?_
        refine a_sipush C0 (256 : Int32) dX2_drawBytes_38 (by decide) ?_
        obtain ⟨r_15, l0_2_16, h_17, h⟩ := bd2_e h
        refine a_callVi C0 (wdX2_1 cA q0 q1 q2 q3 q4 f0 l0_2_16 f1 f2 f3 f4) (As := [.int (256 : Int32)]) (rest := []) (ctX2_pick l D cA q0 q1 q3 (256 : Int32) f0 l0_2 h_17) (cwV 1 C0.1.2.2.2.2 gX2_drawBytes_X2_pick rfl rfl rfl hdX2_pick ⟨Nat.le_of_ble_eq_true rfl, Nat.le_of_ble_eq_true rfl⟩) [0] [1, 2, 3, 4] [4, 0, 1, 2, 3] rfl rfl rfl rfl (by decide) rfl rfl rfl rfl rfl rfl (Nat.le_of_ble_eq_true rfl) dX2_drawBytes_41 ⟨Nat.zero_le _, Nat.zero_le _⟩ ?_
        refine a_istore C0 [(4, .int r_15), (0, .ref q0), (1, .int a1), (2, .int v2), (3, .int v3)] dX2_drawBytes_44 (by decide) rfl ?_
        refine a_goto C0 67 dX2_drawBytes_46 (by decide) ?_
        refine a_lv [1, 2, 3, 4, 0] (lv' := [(0, .ref q0), (1, .int a1), (2, .int v2), (3, .int v3), (4, .int r_15)]) rfl ?_
        exact bwX2_drawBytes_67 C0 N a1 f0 rc22 hrc22 v2 v3 r_15 l0_2_16 f1 f2 f3 f4 h
set_option maxHeartbeats 4000000 in
set_option maxRecDepth 100000 in
theorem bwX2_drawBytes_19 {p : Program} {l : Launch} {e : Env} {s : State} {m : MethodId} {args : Array Value} {below : List Frame} {meth : Method} {c : Code} {D : va_G} {A : Nat → Prop} {cA : ClassId} {q0 q1 q2 q3 q4 : Nat} {res : Int64 × (Nat → Int32) × (Nat → Int32) × (Nat → Int32) × (Nat → Int32)} (C0 : cx p s m args meth c cX2_drawBytes 5 RX2 wsX2_drawBytes none D vwCl [(cA, .int)] A) (N : Nat) (a1 : Int32) (f0 : Nat → Int32) (s0 : Int32) (l0_2 : Int64) (f1 : Nat → Int32) (f2 : Nat → Int32) (f3 : Nat → Int32) (f4 : Nat → Int32) (h : bfX2_drawBytes_19 N a1 f0  s0 l0_2 f1 f2 f3 f4 = some res) : At_ p l e (rmX2_drawBytes) s m args below meth c D vwCl A 5 0 0 (Qv_ below args s D vwCl A (wdX2_1 cA q0 q1 q2 q3 q4 f0 res.1 res.2.1 res.2.2.1 res.2.2.2.1 res.2.2.2.2)) 19 [(0, .ref q0), (1, .int a1)] [.int s0] (wdX2_1 cA q0 q1 q2 q3 q4 f0 l0_2 f1 f2 f3 f4) := by
  unfold bfX2_drawBytes_19 at h
  refine a_istore_n C0 [(2, .int s0), (0, .ref q0), (1, .int a1)] dX2_drawBytes_19 rfl (by decide) rfl ?_
  refine a_iconst C0 (0 : Int32) dX2_drawBytes_20 (by decide) ?_
  refine a_istore_n C0 [(3, .int (0 : Int32)), (2, .int s0), (0, .ref q0), (1, .int a1)] dX2_drawBytes_21 rfl (by decide) rfl ?_
  refine a_lv [2, 3, 1, 0] (lv' := [(0, .ref q0), (1, .int a1), (2, .int s0), (3, .int (0 : Int32))]) rfl ?_
  exact bwX2_drawBytes_22 C0 N a1 f0 N s0 (0 : Int32) l0_2 f1 f2 f3 f4 h
set_option maxHeartbeats 4000000 in
set_option maxRecDepth 100000 in
theorem bwX2_drawBytes {p : Program} {l : Launch} {e : Env} {s : State} {m : MethodId} {args : Array Value} {below : List Frame} {meth : Method} {c : Code} {D : va_G} {A : Nat → Prop} {cA : ClassId} {q0 q1 q2 q3 q4 : Nat} {res : Int64 × (Nat → Int32) × (Nat → Int32) × (Nat → Int32) × (Nat → Int32)} (C0 : cx p s m args meth c cX2_drawBytes 5 RX2 wsX2_drawBytes none D vwCl [(cA, .int)] A) (N : Nat) (a1 : Int32) (f0 : Nat → Int32) (l0_2 : Int64) (f1 : Nat → Int32) (f2 : Nat → Int32) (f3 : Nat → Int32) (f4 : Nat → Int32) (h : pX2_drawBytes N a1 f0 l0_2 f1 f2 f3 f4 = some res) : At_ p l e (rmX2_drawBytes) s m args below meth c D vwCl A 5 0 0 (Qv_ below args s D vwCl A (wdX2_1 cA q0 q1 q2 q3 q4 f0 res.1 res.2.1 res.2.2.1 res.2.2.2.1 res.2.2.2.2)) 0 [(0, .ref q0), (1, .int a1)] [] (wdX2_1 cA q0 q1 q2 q3 q4 f0 l0_2 f1 f2 f3 f4) := by
  unfold pX2_drawBytes at h
  refine a_aload_n C0 dX2_drawBytes_0 rfl 0 rfl ?_
  refine a_get C0 inX2_drawBytes_X2 0 rfl rfl 3 (by decide) lkX2_drawBytes_35 (fun _ h9 => h9) (.int (f0 3)) rfl dX2_drawBytes_1 ?_
  refine a_iconst C0 (2 : Int32) dX2_drawBytes_4 (by decide) ?_
  refine a_icmp_ne C0 18 dX2_drawBytes_5 (by decide) (fun c_18 => ?_) (fun c_18 => ?_)
  · have h := ie_ c_18 h
    refine a_iconst C0 (0 : Int32) dX2_drawBytes_18 (by decide) ?_
    exact bwX2_drawBytes_19 C0 N a1 f0 (0 : Int32) l0_2 f1 f2 f3 f4 h
  · have h := it_ c_18 h
    refine a_aload_n C0 dX2_drawBytes_8 rfl 0 rfl ?_
    refine a_sipush C0 (256 : Int32) dX2_drawBytes_9 (by decide) ?_
    obtain ⟨r_19, l0_2_20, h_21, h⟩ := bd2_e h
    refine a_callVi C0 (wdX2_1 cA q0 q1 q2 q3 q4 f0 l0_2_20 f1 f2 f3 f4) (As := [.int (256 : Int32)]) (rest := []) (ctX2_pick l D cA q0 q1 q3 (256 : Int32) f0 l0_2 h_21) (cwV 1 C0.1.2.2.2.2 gX2_drawBytes_X2_pick rfl rfl rfl hdX2_pick ⟨Nat.le_of_ble_eq_true rfl, Nat.le_of_ble_eq_true rfl⟩) [0] [1, 2, 3, 4] [4, 0, 1, 2, 3] rfl rfl rfl rfl (by decide) rfl rfl rfl rfl rfl rfl (Nat.le_of_ble_eq_true rfl) dX2_drawBytes_12 ⟨Nat.zero_le _, Nat.zero_le _⟩ ?_
    refine a_goto C0 19 dX2_drawBytes_15 (by decide) ?_
    exact bwX2_drawBytes_19 C0 N a1 f0 r_19 l0_2_20 f1 f2 f3 f4 h
set_option maxRecDepth 100000 in
theorem ctX2_drawBytes (l : Launch) (D : va_G) (cA : ClassId) (q0 q1 q2 q3 q4 : Nat) (N : Nat) (a1 : Int32) (f0 : Nat → Int32) (l0_2 : Int64) (f1 : Nat → Int32) (f2 : Nat → Int32) (f3 : Nat → Int32) (f4 : Nat → Int32) {res : Int64 × (Nat → Int32) × (Nat → Int32) × (Nat → Int32) × (Nat → Int32)} (h : pX2_drawBytes N a1 f0 l0_2 f1 f2 f3 f4 = some res) : Ctv l yX2_drawBytes wsX2_drawBytes (rmX2_drawBytes) D vwCl [(cA, .int)] [.ref q0, .int a1] (wdX2_1 cA q0 q1 q2 q3 q4 f0 l0_2 f1 f2 f3 f4) (wdX2_1 cA q0 q1 q2 q3 q4 f0 res.1 res.2.1 res.2.2.1 res.2.2.2.1 res.2.2.2.2) 0 0 :=
  ct_n (S := Unit) (maxL := 5) (cc := cX2_drawBytes) (by decide) rfl (Nat.le_of_ble_eq_true rfl) (fun p e s m below meth c _ C0 => bwX2_drawBytes C0 N a1 f0 l0_2 f1 f2 f3 f4 h)
/-! PackDrawer$Drawer.drawRaw -/
theorem hdX2_drawBytes : yX2_drawBytes.cls = RX2 ∧ yX2_drawBytes.cls ≠ "java/lang/invoke/MethodHandle" ∧ yX2_drawBytes.cls ≠ "java/lang/invoke/VarHandle" ∧ (parseMethodDescriptor yX2_drawBytes.desc).map (fun d => d.parameters.length) = some 1 := by decide +kernel
abbrev rmX2_drawRaw : Room := { frames := 2, cells := 0, slots := 0, locals := 47 }
theorem lkX2_drawRaw_18 : Cond.fieldLink RX2 18 RX2 (TX2 0).2.1 (TX2 0).2.2.1 ∈ wsX2_drawRaw := by decide +kernel
theorem inX2_drawRaw_X2 : ∀ w ∈ u_ws RX2 TX2 5, w ∈ wsX2_drawRaw := by decide +kernel
def pX2_drawRaw (N : Nat) (f0 : Nat → Int32) (l0_2 : Int64) (f1 : Nat → Int32) (f2 : Nat → Int32) (f3 : Nat → Int32) (f4 : Nat → Int32) : Option (Int64 × (Nat → Int32) × (Nat → Int32) × (Nat → Int32) × (Nat → Int32)) := bd2 (pX2_pick (5 : Int32) f0 l0_2) (fun r_1 l0_2_2 => lt_ (((1 : Int32) + r_1)) (fun x_4 => bd2 (pX5_append x_4 f1 f2) (fun f1_5 f2_6 => bd5 (pX2_drawBytes N x_4 f0 l0_2_2 f1_5 f2_6 f3 f4) (fun l0_2_8 f1_9 f2_10 f3_11 f4_12 => some (l0_2_8, f1_9, f2_10, f3_11, f4_12)))))
set_option maxHeartbeats 4000000 in
set_option maxRecDepth 100000 in
theorem bwX2_drawRaw {p : Program} {l : Launch} {e : Env} {s : State} {m : MethodId} {args : Array Value} {below : List Frame} {meth : Method} {c : Code} {D : va_G} {A : Nat → Prop} {cA : ClassId} {q0 q1 q2 q3 q4 : Nat} {res : Int64 × (Nat → Int32) × (Nat → Int32) × (Nat → Int32) × (Nat → Int32)} (C0 : cx p s m args meth c cX2_drawRaw 2 RX2 wsX2_drawRaw none D vwCl [(cA, .int)] A) (N : Nat) (f0 : Nat → Int32) (l0_2 : Int64) (f1 : Nat → Int32) (f2 : Nat → Int32) (f3 : Nat → Int32) (f4 : Nat → Int32) (h : pX2_drawRaw N f0 l0_2 f1 f2 f3 f4 = some res) : At_ p l e (rmX2_drawRaw) s m args below meth c D vwCl A 2 0 0 (Qv_ below args s D vwCl A (wdX2_1 cA q0 q1 q2 q3 q4 f0 res.1 res.2.1 res.2.2.1 res.2.2.2.1 res.2.2.2.2)) 0 [(0, .ref q0)] [] (wdX2_1 cA q0 q1 q2 q3 q4 f0 l0_2 f1 f2 f3 f4) := by
  unfold pX2_drawRaw at h
  refine a_iconst C0 (1 : Int32) dX2_drawRaw_0 (by decide) ?_
  refine a_aload_n C0 dX2_drawRaw_1 rfl 0 rfl ?_
  refine a_iconst C0 (5 : Int32) dX2_drawRaw_2 (by decide) ?_
  obtain ⟨r_1, l0_2_2, h_3, h⟩ := bd2_e h
  refine a_callVi C0 (wdX2_1 cA q0 q1 q2 q3 q4 f0 l0_2_2 f1 f2 f3 f4) (As := [.int (5 : Int32)]) (rest := [.int (1 : Int32)]) (ctX2_pick l D cA q0 q1 q3 (5 : Int32) f0 l0_2 h_3) (cwV 1 C0.1.2.2.2.2 gX2_drawRaw_X2_pick rfl rfl rfl hdX2_pick ⟨Nat.le_of_ble_eq_true rfl, Nat.le_of_ble_eq_true rfl⟩) [0] [1, 2, 3, 4] [4, 0, 1, 2, 3] rfl rfl rfl rfl (by decide) rfl rfl rfl rfl rfl rfl (Nat.le_of_ble_eq_true rfl) dX2_drawRaw_3 ⟨Nat.zero_le _, Nat.zero_le _⟩ ?_
  refine a_iadd C0 dX2_drawRaw_6 ?_
  obtain ⟨x_4, ex_4, h⟩ := lt_e h
  refine a_topi ex_4 ?_
  refine a_istore_n C0 [(1, .int x_4), (0, .ref q0)] dX2_drawRaw_7 rfl (by decide) rfl ?_
  refine a_aload_n C0 dX2_drawRaw_8 rfl 1 rfl ?_
  refine a_get C0 inX2_drawRaw_X2 0 rfl rfl 0 (by decide) lkX2_drawRaw_18 (fun _ h9 => h9) (.ref q1) rfl dX2_drawRaw_9 ?_
  refine a_iload_n C0 dX2_drawRaw_12 rfl 0 rfl ?_
  obtain ⟨f1_5, f2_6, h_7, h⟩ := bd2_e h
  refine a_callVv C0 (wdX2_1 cA q0 q1 q2 q3 q4 f0 l0_2_2 f1_5 f2_6 f3 f4) (As := [.int x_4]) (rest := []) (ctX5_append l D cA q1 q2 x_4 f1 f2 h_7) (cwV 1 C0.1.2.2.2.2 gX2_drawRaw_X5_append rfl rfl rfl hdX5_append ⟨Nat.le_of_ble_eq_true rfl, Nat.le_of_ble_eq_true rfl⟩) [1, 2] [0, 3, 4] [0, 3, 4, 1, 2] rfl rfl rfl rfl (by decide) rfl rfl rfl rfl rfl rfl (Nat.le_of_ble_eq_true rfl) dX2_drawRaw_13 ⟨Nat.zero_le _, Nat.zero_le _⟩ ?_
  refine a_aload_n C0 dX2_drawRaw_16 rfl 1 rfl ?_
  refine a_iload_n C0 dX2_drawRaw_17 rfl 0 rfl ?_
  obtain ⟨l0_2_8, f1_9, f2_10, f3_11, f4_12, h_13, h⟩ := bd5_e h
  refine a_callVv C0 (wdX2_1 cA q0 q1 q2 q3 q4 f0 l0_2_8 f1_9 f2_10 f3_11 f4_12) (As := [.int x_4]) (rest := []) (ctX2_drawBytes l D cA q0 q1 q2 q3 q4 N x_4 f0 l0_2_2 f1_5 f2_6 f3 f4 h_13) (cwV 1 C0.1.2.2.2.2 gX2_drawRaw_X2_drawBytes rfl rfl rfl hdX2_drawBytes ⟨Nat.le_of_ble_eq_true rfl, Nat.le_of_ble_eq_true rfl⟩) [0, 1, 2, 3, 4] [] [0, 1, 2, 3, 4] rfl rfl rfl rfl (by decide) rfl rfl rfl rfl rfl rfl (Nat.le_of_ble_eq_true rfl) dX2_drawRaw_18 ⟨Nat.zero_le _, Nat.zero_le _⟩ ?_
  obtain rfl := Option.some.inj h
  exact a_vret C0 dX2_drawRaw_21 rfl
set_option maxRecDepth 100000 in
theorem ctX2_drawRaw (l : Launch) (D : va_G) (cA : ClassId) (q0 q1 q2 q3 q4 : Nat) (N : Nat) (f0 : Nat → Int32) (l0_2 : Int64) (f1 : Nat → Int32) (f2 : Nat → Int32) (f3 : Nat → Int32) (f4 : Nat → Int32) {res : Int64 × (Nat → Int32) × (Nat → Int32) × (Nat → Int32) × (Nat → Int32)} (h : pX2_drawRaw N f0 l0_2 f1 f2 f3 f4 = some res) : Ctv l yX2_drawRaw wsX2_drawRaw (rmX2_drawRaw) D vwCl [(cA, .int)] [.ref q0] (wdX2_1 cA q0 q1 q2 q3 q4 f0 l0_2 f1 f2 f3 f4) (wdX2_1 cA q0 q1 q2 q3 q4 f0 res.1 res.2.1 res.2.2.1 res.2.2.2.1 res.2.2.2.2) 0 0 :=
  ct_n (S := Unit) (maxL := 2) (cc := cX2_drawRaw) (by decide) rfl (Nat.le_of_ble_eq_true rfl) (fun p e s m below meth c _ C0 => bwX2_drawRaw C0 N f0 l0_2 f1 f2 f3 f4 h)
/-! PackDrawer$Drawer.drawWide -/
abbrev rmX2_drawWide : Room := { frames := 2, cells := 0, slots := 0, locals := 47 }
theorem lkX2_drawWide_18 : Cond.fieldLink RX2 18 RX2 (TX2 0).2.1 (TX2 0).2.2.1 ∈ wsX2_drawWide := by decide +kernel
theorem inX2_drawWide_X2 : ∀ w ∈ u_ws RX2 TX2 5, w ∈ wsX2_drawWide := by decide +kernel
def pX2_drawWide (N : Nat) (f0 : Nat → Int32) (l0_2 : Int64) (f1 : Nat → Int32) (f2 : Nat → Int32) (f3 : Nat → Int32) (f4 : Nat → Int32) : Option (Int64 × (Nat → Int32) × (Nat → Int32) × (Nat → Int32) × (Nat → Int32)) := bd2 (pX2_pick (5 : Int32) f0 l0_2) (fun r_1 l0_2_2 => lt_ (((1 : Int32) + r_1)) (fun x_4 => bd2 (pX5_append (255 : Int32) f1 f2) (fun f1_5 f2_6 => bd2 (pX5_append (0 : Int32) f1_5 f2_6) (fun f1_8 f2_9 => bd2 (pX5_append x_4 f1_8 f2_9) (fun f1_11 f2_12 => bd5 (pX2_drawBytes N x_4 f0 l0_2_2 f1_11 f2_12 f3 f4) (fun l0_2_14 f1_15 f2_16 f3_17 f4_18 => some (l0_2_14, f1_15, f2_16, f3_17, f4_18)))))))
set_option maxHeartbeats 4000000 in
set_option maxRecDepth 100000 in
theorem bwX2_drawWide {p : Program} {l : Launch} {e : Env} {s : State} {m : MethodId} {args : Array Value} {below : List Frame} {meth : Method} {c : Code} {D : va_G} {A : Nat → Prop} {cA : ClassId} {q0 q1 q2 q3 q4 : Nat} {res : Int64 × (Nat → Int32) × (Nat → Int32) × (Nat → Int32) × (Nat → Int32)} (C0 : cx p s m args meth c cX2_drawWide 2 RX2 wsX2_drawWide none D vwCl [(cA, .int)] A) (N : Nat) (f0 : Nat → Int32) (l0_2 : Int64) (f1 : Nat → Int32) (f2 : Nat → Int32) (f3 : Nat → Int32) (f4 : Nat → Int32) (h : pX2_drawWide N f0 l0_2 f1 f2 f3 f4 = some res) : At_ p l e (rmX2_drawWide) s m args below meth c D vwCl A 2 0 0 (Qv_ below args s D vwCl A (wdX2_1 cA q0 q1 q2 q3 q4 f0 res.1 res.2.1 res.2.2.1 res.2.2.2.1 res.2.2.2.2)) 0 [(0, .ref q0)] [] (wdX2_1 cA q0 q1 q2 q3 q4 f0 l0_2 f1 f2 f3 f4) := by
  unfold pX2_drawWide at h
  refine a_iconst C0 (1 : Int32) dX2_drawWide_0 (by decide) ?_
  refine a_aload_n C0 dX2_drawWide_1 rfl 0 rfl ?_
  refine a_iconst C0 (5 : Int32) dX2_drawWide_2 (by decide) ?_
  obtain ⟨r_1, l0_2_2, h_3, h⟩ := bd2_e h
  refine a_callVi C0 (wdX2_1 cA q0 q1 q2 q3 q4 f0 l0_2_2 f1 f2 f3 f4) (As := [.int (5 : Int32)]) (rest := [.int (1 : Int32)]) (ctX2_pick l D cA q0 q1 q3 (5 : Int32) f0 l0_2 h_3) (cwV 1 C0.1.2.2.2.2 gX2_drawWide_X2_pick rfl rfl rfl hdX2_pick ⟨Nat.le_of_ble_eq_true rfl, Nat.le_of_ble_eq_true rfl⟩) [0] [1, 2, 3, 4] [4, 0, 1, 2, 3] rfl rfl rfl rfl (by decide) rfl rfl rfl rfl rfl rfl (Nat.le_of_ble_eq_true rfl) dX2_drawWide_3 ⟨Nat.zero_le _, Nat.zero_le _⟩ ?_
  refine a_iadd C0 dX2_drawWide_6 ?_
  obtain ⟨x_4, ex_4, h⟩ := lt_e h
  refine a_topi ex_4 ?_
  refine a_istore_n C0 [(1, .int x_4), (0, .ref q0)] dX2_drawWide_7 rfl (by decide) rfl ?_
  refine a_aload_n C0 dX2_drawWide_8 rfl 1 rfl ?_
  refine a_get C0 inX2_drawWide_X2 0 rfl rfl 0 (by decide) lkX2_drawWide_18 (fun _ h9 => h9) (.ref q1) rfl dX2_drawWide_9 ?_
  refine a_sipush C0 (255 : Int32) dX2_drawWide_12 (by decide) ?_
  obtain ⟨f1_5, f2_6, h_7, h⟩ := bd2_e h
  refine a_callVv C0 (wdX2_1 cA q0 q1 q2 q3 q4 f0 l0_2_2 f1_5 f2_6 f3 f4) (As := [.int (255 : Int32)]) (rest := []) (ctX5_append l D cA q1 q2 (255 : Int32) f1 f2 h_7) (cwV 1 C0.1.2.2.2.2 gX2_drawWide_X5_append rfl rfl rfl hdX5_append ⟨Nat.le_of_ble_eq_true rfl, Nat.le_of_ble_eq_true rfl⟩) [1, 2] [0, 3, 4] [0, 3, 4, 1, 2] rfl rfl rfl rfl (by decide) rfl rfl rfl rfl rfl rfl (Nat.le_of_ble_eq_true rfl) dX2_drawWide_15 ⟨Nat.zero_le _, Nat.zero_le _⟩ ?_
  refine a_aload_n C0 dX2_drawWide_18 rfl 1 rfl ?_
  refine a_get C0 inX2_drawWide_X2 0 rfl rfl 0 (by decide) lkX2_drawWide_18 (fun _ h9 => h9) (.ref q1) rfl dX2_drawWide_19 ?_
  refine a_iconst C0 (0 : Int32) dX2_drawWide_22 (by decide) ?_
  obtain ⟨f1_8, f2_9, h_10, h⟩ := bd2_e h
  refine a_callVv C0 (wdX2_1 cA q0 q1 q2 q3 q4 f0 l0_2_2 f1_8 f2_9 f3 f4) (As := [.int (0 : Int32)]) (rest := []) (ctX5_append l D cA q1 q2 (0 : Int32) f1_5 f2_6 h_10) (cwV 1 C0.1.2.2.2.2 gX2_drawWide_X5_append rfl rfl rfl hdX5_append ⟨Nat.le_of_ble_eq_true rfl, Nat.le_of_ble_eq_true rfl⟩) [1, 2] [0, 3, 4] [0, 3, 4, 1, 2] rfl rfl rfl rfl (by decide) rfl rfl rfl rfl rfl rfl (Nat.le_of_ble_eq_true rfl) dX2_drawWide_23 ⟨Nat.zero_le _, Nat.zero_le _⟩ ?_
  refine a_aload_n C0 dX2_drawWide_26 rfl 1 rfl ?_
  refine a_get C0 inX2_drawWide_X2 0 rfl rfl 0 (by decide) lkX2_drawWide_18 (fun _ h9 => h9) (.ref q1) rfl dX2_drawWide_27 ?_
  refine a_iload_n C0 dX2_drawWide_30 rfl 0 rfl ?_
  obtain ⟨f1_11, f2_12, h_13, h⟩ := bd2_e h
  refine a_callVv C0 (wdX2_1 cA q0 q1 q2 q3 q4 f0 l0_2_2 f1_11 f2_12 f3 f4) (As := [.int x_4]) (rest := []) (ctX5_append l D cA q1 q2 x_4 f1_8 f2_9 h_13) (cwV 1 C0.1.2.2.2.2 gX2_drawWide_X5_append rfl rfl rfl hdX5_append ⟨Nat.le_of_ble_eq_true rfl, Nat.le_of_ble_eq_true rfl⟩) [1, 2] [0, 3, 4] [0, 3, 4, 1, 2] rfl rfl rfl rfl (by decide) rfl rfl rfl rfl rfl rfl (Nat.le_of_ble_eq_true rfl) dX2_drawWide_31 ⟨Nat.zero_le _, Nat.zero_le _⟩ ?_
  refine a_aload_n C0 dX2_drawWide_34 rfl 1 rfl ?_
  refine a_iload_n C0 dX2_drawWide_35 rfl 0 rfl ?_
  obtain ⟨l0_2_14, f1_15, f2_16, f3_17, f4_18, h_19, h⟩ := bd5_e h
  refine a_callVv C0 (wdX2_1 cA q0 q1 q2 q3 q4 f0 l0_2_14 f1_15 f2_16 f3_17 f4_18) (As := [.int x_4]) (rest := []) (ctX2_drawBytes l D cA q0 q1 q2 q3 q4 N x_4 f0 l0_2_2 f1_11 f2_12 f3 f4 h_19) (cwV 1 C0.1.2.2.2.2 gX2_drawWide_X2_drawBytes rfl rfl rfl hdX2_drawBytes ⟨Nat.le_of_ble_eq_true rfl, Nat.le_of_ble_eq_true rfl⟩) [0, 1, 2, 3, 4] [] [0, 1, 2, 3, 4] rfl rfl rfl rfl (by decide) rfl rfl rfl rfl rfl rfl (Nat.le_of_ble_eq_true rfl) dX2_drawWide_36 ⟨Nat.zero_le _, Nat.zero_le _⟩ ?_
  obtain rfl := Option.some.inj h
  exact a_vret C0 dX2_drawWide_39 rfl
set_option maxRecDepth 100000 in
theorem ctX2_drawWide (l : Launch) (D : va_G) (cA : ClassId) (q0 q1 q2 q3 q4 : Nat) (N : Nat) (f0 : Nat → Int32) (l0_2 : Int64) (f1 : Nat → Int32) (f2 : Nat → Int32) (f3 : Nat → Int32) (f4 : Nat → Int32) {res : Int64 × (Nat → Int32) × (Nat → Int32) × (Nat → Int32) × (Nat → Int32)} (h : pX2_drawWide N f0 l0_2 f1 f2 f3 f4 = some res) : Ctv l yX2_drawWide wsX2_drawWide (rmX2_drawWide) D vwCl [(cA, .int)] [.ref q0] (wdX2_1 cA q0 q1 q2 q3 q4 f0 l0_2 f1 f2 f3 f4) (wdX2_1 cA q0 q1 q2 q3 q4 f0 res.1 res.2.1 res.2.2.1 res.2.2.2.1 res.2.2.2.2) 0 0 :=
  ct_n (S := Unit) (maxL := 2) (cc := cX2_drawWide) (by decide) rfl (Nat.le_of_ble_eq_true rfl) (fun p e s m below meth c _ C0 => bwX2_drawWide C0 N f0 l0_2 f1 f2 f3 f4 h)
/-! PackDrawer$Drawer.drawInner -/
theorem hdX2_drawPack : yX2_drawPack.cls = RX2 ∧ yX2_drawPack.cls ≠ "java/lang/invoke/MethodHandle" ∧ yX2_drawPack.cls ≠ "java/lang/invoke/VarHandle" ∧ (parseMethodDescriptor yX2_drawPack.desc).map (fun d => d.parameters.length) = some 1 := by decide +kernel
theorem hdX5_change : yX5_change.cls = RX5 ∧ yX5_change.cls ≠ "java/lang/invoke/MethodHandle" ∧ yX5_change.cls ≠ "java/lang/invoke/VarHandle" ∧ (parseMethodDescriptor yX5_change.desc).map (fun d => d.parameters.length) = some 2 := by decide +kernel
abbrev rmX2_drawInner (F Lc : Nat) : Room := { frames := F + 1, cells := 0, slots := 0, locals := Lc + 24 }
theorem lkX2_drawInner_18 : Cond.fieldLink RX2 18 RX2 (TX2 0).2.1 (TX2 0).2.2.1 ∈ wsX2_drawInner := by decide +kernel
theorem inX2_drawInner_X2 : ∀ w ∈ u_ws RX2 TX2 5, w ∈ wsX2_drawInner := by decide +kernel
def pX2_drawInner (N : Nat) (rp : Int32 → (Nat → Int32) → Int64 → (Nat → Int32) → (Nat → Int32) → (Nat → Int32) → (Nat → Int32) → Option (Int64 × (Nat → Int32) × (Nat → Int32) × (Nat → Int32) × (Nat → Int32))) (a1 : Int32) (f0 : Nat → Int32) (l0_2 : Int64) (f1 : Nat → Int32) (f2 : Nat → Int32) (f3 : Nat → Int32) (f4 : Nat → Int32) : Option (Int64 × (Nat → Int32) × (Nat → Int32) × (Nat → Int32) × (Nat → Int32)) := bd2 (pX5_append (192 : Int32) f1 f2) (fun f1_1 f2_2 => bd1 (pX5_count f1_1) (fun r_4 => bd2 (pX5_append (0 : Int32) f1_1 f2_2) (fun f1_6 f2_7 => bd5 (rp (a1 + (1 : Int32)) f0 l0_2 f1_6 f2_7 f3 f4) (fun l0_2_9 f1_10 f2_11 f3_12 f4_13 => bd1 (pX5_count f1_10) (fun r_15 => bd1 (pX5_change r_4 ((r_15 - r_4) - (1 : Int32)) f1_10 f2_11) (fun f2_17 => some (l0_2_9, f1_10, f2_17, f3_12, f4_13)))))))
set_option maxHeartbeats 4000000 in
set_option maxRecDepth 100000 in
theorem bwX2_drawInner {p : Program} {l : Launch} {e : Env} {s : State} {m : MethodId} {args : Array Value} {below : List Frame} {meth : Method} {c : Code} {D : va_G} {A : Nat → Prop} {cA : ClassId} {q0 q1 q2 q3 q4 : Nat} {res : Int64 × (Nat → Int32) × (Nat → Int32) × (Nat → Int32) × (Nat → Int32)} {F Lc : Nat} (C0 : cx p s m args meth c cX2_drawInner 3 RX2 wsX2_drawInner none D vwCl [(cA, .int)] A) (N : Nat) (rp : Int32 → (Nat → Int32) → Int64 → (Nat → Int32) → (Nat → Int32) → (Nat → Int32) → (Nat → Int32) → Option (Int64 × (Nat → Int32) × (Nat → Int32) × (Nat → Int32) × (Nat → Int32))) (a1 : Int32) (f0 : Nat → Int32) (l0_2 : Int64) (f1 : Nat → Int32) (f2 : Nat → Int32) (f3 : Nat → Int32) (f4 : Nat → Int32) (hF : 4 ≤ F) (hL : 91 ≤ Lc) (hrp : ∀ (q0 q1 q2 q3 q4 : Nat) (b1 : Int32) (f0 : Nat → Int32) (l0_2 : Int64) (f1 : Nat → Int32) (f2 : Nat → Int32) (f3 : Nat → Int32) (f4 : Nat → Int32) {rs : Int64 × (Nat → Int32) × (Nat → Int32) × (Nat → Int32) × (Nat → Int32)}, rp b1 f0 l0_2 f1 f2 f3 f4 = some rs → Ctv l yX2_drawPack wsX2_drawPack { frames := F, cells := 0, slots := 0, locals := Lc } D vwCl [(cA, .int)] [.ref q0, .int b1] (wdX2_1 cA q0 q1 q2 q3 q4 f0 l0_2 f1 f2 f3 f4) (wdX2_1 cA q0 q1 q2 q3 q4 f0 rs.1 rs.2.1 rs.2.2.1 rs.2.2.2.1 rs.2.2.2.2) 0 0) (h : pX2_drawInner N rp a1 f0 l0_2 f1 f2 f3 f4 = some res) : At_ p l e (rmX2_drawInner F Lc) s m args below meth c D vwCl A 3 0 0 (Qv_ below args s D vwCl A (wdX2_1 cA q0 q1 q2 q3 q4 f0 res.1 res.2.1 res.2.2.1 res.2.2.2.1 res.2.2.2.2)) 0 [(0, .ref q0), (1, .int a1)] [] (wdX2_1 cA q0 q1 q2 q3 q4 f0 l0_2 f1 f2 f3 f4) := by
  unfold pX2_drawInner at h
  refine a_aload_n C0 dX2_drawInner_0 rfl 0 rfl ?_
  refine a_get C0 inX2_drawInner_X2 0 rfl rfl 0 (by decide) lkX2_drawInner_18 (fun _ h9 => h9) (.ref q1) rfl dX2_drawInner_1 ?_
  refine a_sipush C0 (192 : Int32) dX2_drawInner_4 (by decide) ?_
  obtain ⟨f1_1, f2_2, h_3, h⟩ := bd2_e h
  refine a_callVv C0 (wdX2_1 cA q0 q1 q2 q3 q4 f0 l0_2 f1_1 f2_2 f3 f4) (As := [.int (192 : Int32)]) (rest := []) (ctX5_append l D cA q1 q2 (192 : Int32) f1 f2 h_3) (cwV 1 C0.1.2.2.2.2 gX2_drawInner_X5_append rfl rfl rfl hdX5_append ⟨by dsimp only; omega, by dsimp only; omega⟩) [1, 2] [0, 3, 4] [0, 3, 4, 1, 2] rfl rfl rfl rfl (by decide) rfl rfl rfl rfl rfl rfl (Nat.le_of_ble_eq_true rfl) dX2_drawInner_7 ⟨Nat.zero_le _, Nat.zero_le _⟩ ?_
  refine a_aload_n C0 dX2_drawInner_10 rfl 0 rfl ?_
  refine a_get C0 inX2_drawInner_X2 0 rfl rfl 0 (by decide) lkX2_drawInner_18 (fun _ h9 => h9) (.ref q1) rfl dX2_drawInner_11 ?_
  obtain ⟨r_4, h_5, h⟩ := bd1_e h
  refine a_callVi C0 (wdX2_1 cA q0 q1 q2 q3 q4 f0 l0_2 f1_1 f2_2 f3 f4) (As := []) (rest := []) (ctX5_count l D cA q1 q2 f1_1 h_5) (cwV 0 C0.1.2.2.2.2 gX2_drawInner_X5_count rfl rfl rfl hdX5_count ⟨by dsimp only; omega, by dsimp only; omega⟩) [1] [0, 2, 3, 4] [0, 4, 1, 2, 3] rfl rfl rfl rfl (by decide) rfl rfl rfl rfl rfl rfl (Nat.le_of_ble_eq_true rfl) dX2_drawInner_14 ⟨Nat.zero_le _, Nat.zero_le _⟩ ?_
  refine a_istore_n C0 [(2, .int r_4), (0, .ref q0), (1, .int a1)] dX2_drawInner_17 rfl (by decide) rfl ?_
  refine a_aload_n C0 dX2_drawInner_18 rfl 1 rfl ?_
  refine a_get C0 inX2_drawInner_X2 0 rfl rfl 0 (by decide) lkX2_drawInner_18 (fun _ h9 => h9) (.ref q1) rfl dX2_drawInner_19 ?_
  refine a_iconst C0 (0 : Int32) dX2_drawInner_22 (by decide) ?_
  obtain ⟨f1_6, f2_7, h_8, h⟩ := bd2_e h
  refine a_callVv C0 (wdX2_1 cA q0 q1 q2 q3 q4 f0 l0_2 f1_6 f2_7 f3 f4) (As := [.int (0 : Int32)]) (rest := []) (ctX5_append l D cA q1 q2 (0 : Int32) f1_1 f2_2 h_8) (cwV 1 C0.1.2.2.2.2 gX2_drawInner_X5_append rfl rfl rfl hdX5_append ⟨by dsimp only; omega, by dsimp only; omega⟩) [1, 2] [0, 3, 4] [0, 3, 4, 1, 2] rfl rfl rfl rfl (by decide) rfl rfl rfl rfl rfl rfl (Nat.le_of_ble_eq_true rfl) dX2_drawInner_23 ⟨Nat.zero_le _, Nat.zero_le _⟩ ?_
  refine a_aload_n C0 dX2_drawInner_26 rfl 1 rfl ?_
  refine a_iload_n C0 dX2_drawInner_27 rfl 2 rfl ?_
  refine a_iconst C0 (1 : Int32) dX2_drawInner_28 (by decide) ?_
  refine a_iadd C0 dX2_drawInner_29 ?_
  obtain ⟨l0_2_9, f1_10, f2_11, f3_12, f4_13, h_14, h⟩ := bd5_e h
  refine a_callVv C0 (wdX2_1 cA q0 q1 q2 q3 q4 f0 l0_2_9 f1_10 f2_11 f3_12 f4_13) (As := [.int (a1 + (1 : Int32))]) (rest := []) (hrp q0 q1 q2 q3 q4 (a1 + (1 : Int32)) f0 l0_2 f1_6 f2_7 f3 f4 h_14) (cwV 1 C0.1.2.2.2.2 gX2_drawInner_X2_drawPack rfl rfl rfl hdX2_drawPack ⟨by dsimp only; omega, by dsimp only; omega⟩) [0, 1, 2, 3, 4] [] [0, 1, 2, 3, 4] rfl rfl rfl rfl (by decide) rfl rfl rfl rfl rfl rfl (Nat.le_of_ble_eq_true rfl) dX2_drawInner_30 ⟨Nat.zero_le _, Nat.zero_le _⟩ ?_
  refine a_aload_n C0 dX2_drawInner_33 rfl 1 rfl ?_
  refine a_get C0 inX2_drawInner_X2 0 rfl rfl 0 (by decide) lkX2_drawInner_18 (fun _ h9 => h9) (.ref q1) rfl dX2_drawInner_34 ?_
  refine a_iload_n C0 dX2_drawInner_37 rfl 0 rfl ?_
  refine a_aload_n C0 dX2_drawInner_38 rfl 1 rfl ?_
  refine a_get C0 inX2_drawInner_X2 0 rfl rfl 0 (by decide) lkX2_drawInner_18 (fun _ h9 => h9) (.ref q1) rfl dX2_drawInner_39 ?_
  obtain ⟨r_15, h_16, h⟩ := bd1_e h
  refine a_callVi C0 (wdX2_1 cA q0 q1 q2 q3 q4 f0 l0_2_9 f1_10 f2_11 f3_12 f4_13) (As := []) (rest := [.int r_4, .ref q1]) (ctX5_count l D cA q1 q2 f1_10 h_16) (cwV 0 C0.1.2.2.2.2 gX2_drawInner_X5_count rfl rfl rfl hdX5_count ⟨by dsimp only; omega, by dsimp only; omega⟩) [1] [0, 2, 3, 4] [0, 4, 1, 2, 3] rfl rfl rfl rfl (by decide) rfl rfl rfl rfl rfl rfl (Nat.le_of_ble_eq_true rfl) dX2_drawInner_42 ⟨Nat.zero_le _, Nat.zero_le _⟩ ?_
  refine a_iload_n C0 dX2_drawInner_45 rfl 0 rfl ?_
  refine a_isub C0 dX2_drawInner_46 ?_
  refine a_iconst C0 (1 : Int32) dX2_drawInner_47 (by decide) ?_
  refine a_isub C0 dX2_drawInner_48 ?_
  obtain ⟨f2_17, h_18, h⟩ := bd1_e h
  refine a_callVv C0 (wdX2_1 cA q0 q1 q2 q3 q4 f0 l0_2_9 f1_10 f2_17 f3_12 f4_13) (As := [.int r_4, .int ((r_15 - r_4) - (1 : Int32))]) (rest := []) (ctX5_change l D cA q1 q2 r_4 ((r_15 - r_4) - (1 : Int32)) f1_10 f2_11 h_18) (cwV 2 C0.1.2.2.2.2 gX2_drawInner_X5_change rfl rfl rfl hdX5_change ⟨by dsimp only; omega, by dsimp only; omega⟩) [1, 2] [0, 3, 4] [0, 3, 4, 1, 2] rfl rfl rfl rfl (by decide) rfl rfl rfl rfl rfl rfl (Nat.le_of_ble_eq_true rfl) dX2_drawInner_49 ⟨Nat.zero_le _, Nat.zero_le _⟩ ?_
  obtain rfl := Option.some.inj h
  exact a_vret C0 dX2_drawInner_52 rfl
set_option maxRecDepth 100000 in
theorem ctX2_drawInner (l : Launch) (D : va_G) (cA : ClassId) (q0 q1 q2 q3 q4 : Nat) (F Lc : Nat) (hF : 4 ≤ F) (hL : 91 ≤ Lc) (N : Nat) (rp : Int32 → (Nat → Int32) → Int64 → (Nat → Int32) → (Nat → Int32) → (Nat → Int32) → (Nat → Int32) → Option (Int64 × (Nat → Int32) × (Nat → Int32) × (Nat → Int32) × (Nat → Int32))) (hrp : ∀ (q0 q1 q2 q3 q4 : Nat) (b1 : Int32) (f0 : Nat → Int32) (l0_2 : Int64) (f1 : Nat → Int32) (f2 : Nat → Int32) (f3 : Nat → Int32) (f4 : Nat → Int32) {rs : Int64 × (Nat → Int32) × (Nat → Int32) × (Nat → Int32) × (Nat → Int32)}, rp b1 f0 l0_2 f1 f2 f3 f4 = some rs → Ctv l yX2_drawPack wsX2_drawPack { frames := F, cells := 0, slots := 0, locals := Lc } D vwCl [(cA, .int)] [.ref q0, .int b1] (wdX2_1 cA q0 q1 q2 q3 q4 f0 l0_2 f1 f2 f3 f4) (wdX2_1 cA q0 q1 q2 q3 q4 f0 rs.1 rs.2.1 rs.2.2.1 rs.2.2.2.1 rs.2.2.2.2) 0 0) (a1 : Int32) (f0 : Nat → Int32) (l0_2 : Int64) (f1 : Nat → Int32) (f2 : Nat → Int32) (f3 : Nat → Int32) (f4 : Nat → Int32) {res : Int64 × (Nat → Int32) × (Nat → Int32) × (Nat → Int32) × (Nat → Int32)} (h : pX2_drawInner N rp a1 f0 l0_2 f1 f2 f3 f4 = some res) : Ctv l yX2_drawInner wsX2_drawInner (rmX2_drawInner F Lc) D vwCl [(cA, .int)] [.ref q0, .int a1] (wdX2_1 cA q0 q1 q2 q3 q4 f0 l0_2 f1 f2 f3 f4) (wdX2_1 cA q0 q1 q2 q3 q4 f0 res.1 res.2.1 res.2.2.1 res.2.2.2.1 res.2.2.2.2) 0 0 :=
  ct_n (S := Unit) (maxL := 3) (cc := cX2_drawInner) (by decide) rfl (Nat.le_of_ble_eq_true rfl) (fun p e s m below meth c _ C0 => bwX2_drawInner C0 N rp a1 f0 l0_2 f1 f2 f3 f4 hF hL hrp h)
/-! PackDrawer$Drawer.drawAgain -/
theorem hdX2_drawRaw : yX2_drawRaw.cls = RX2 ∧ yX2_drawRaw.cls ≠ "java/lang/invoke/MethodHandle" ∧ yX2_drawRaw.cls ≠ "java/lang/invoke/VarHandle" ∧ (parseMethodDescriptor yX2_drawRaw.desc).map (fun d => d.parameters.length) = some 0 := by decide +kernel
abbrev rmX2_drawAgain : Room := { frames := 3, cells := 0, slots := 0, locals := 68 }
theorem lkX2_drawAgain_18 : Cond.fieldLink RX2 18 RX2 (TX2 0).2.1 (TX2 0).2.2.1 ∈ wsX2_drawAgain := by decide +kernel
theorem inX2_drawAgain_X2 : ∀ w ∈ u_ws RX2 TX2 5, w ∈ wsX2_drawAgain := by decide +kernel
theorem lkX2_drawAgain_12 : Cond.fieldLink RX2 12 RX2 (TX2 1).2.1 (TX2 1).2.2.1 ∈ wsX2_drawAgain := by decide +kernel
theorem nmX2_drawAgain_96 : (RX2, 96, yX6_timesMore, RX6) ∈ nest_M := by decide +kernel
theorem niX2_drawAgain_X6 : Cond.initialized RX6 ∈ wsX2_drawAgain := by decide +kernel
theorem nsX2_drawAgain_X6_timesMore : Cond.static yX6_timesMore ∈ wsX2_drawAgain := by decide +kernel
def pX2_drawAgain (N : Nat) (f0 : Nat → Int32) (l0_2 : Int64) (f1 : Nat → Int32) (f2 : Nat → Int32) (f3 : Nat → Int32) (f4 : Nat → Int32) : Option (Int64 × (Nat → Int32) × (Nat → Int32) × (Nat → Int32) × (Nat → Int32)) := bd2 (pX2_pick (4 : Int32) f0 l0_2) (fun r_1 l0_2_2 => bd2 (pX5_append ((128 : Int32) + r_1) f1 f2) (fun f1_4 f2_5 => bd1 (pX4_top f3) (fun r_7 => bd5 (pX2_drawRaw N f0 l0_2_2 f1_4 f2_5 f3 f4) (fun l0_2_9 f1_10 f2_11 f3_12 f4_13 => bd1 (pX4_top f3_12) (fun r_15 => lt_ ((r_15 - r_7)) (fun x_17 => bd1 (pX6_timesMore ((128 : Int32) + r_1)) (fun r_18 => bd2 (pX4_copyFromBefore N x_17 (x_17 * r_18) f3_12 f4_13) (fun f3_20 f4_21 => some (l0_2_9, f1_10, f2_11, f3_20, f4_21)))))))))
set_option maxHeartbeats 4000000 in
set_option maxRecDepth 100000 in
theorem bwX2_drawAgain {p : Program} {l : Launch} {e : Env} {s : State} {m : MethodId} {args : Array Value} {below : List Frame} {meth : Method} {c : Code} {D : va_G} {A : Nat → Prop} {cA : ClassId} {q0 q1 q2 q3 q4 : Nat} {res : Int64 × (Nat → Int32) × (Nat → Int32) × (Nat → Int32) × (Nat → Int32)} (C0 : cx p s m args meth c cX2_drawAgain 4 RX2 wsX2_drawAgain none D vwCl [(cA, .int)] A) (N : Nat) (f0 : Nat → Int32) (l0_2 : Int64) (f1 : Nat → Int32) (f2 : Nat → Int32) (f3 : Nat → Int32) (f4 : Nat → Int32) (h : pX2_drawAgain N f0 l0_2 f1 f2 f3 f4 = some res) : At_ p l e (rmX2_drawAgain) s m args below meth c D vwCl A 4 0 0 (Qv_ below args s D vwCl A (wdX2_1 cA q0 q1 q2 q3 q4 f0 res.1 res.2.1 res.2.2.1 res.2.2.2.1 res.2.2.2.2)) 0 [(0, .ref q0)] [] (wdX2_1 cA q0 q1 q2 q3 q4 f0 l0_2 f1 f2 f3 f4) := by
  unfold pX2_drawAgain at h
  refine a_aload_n C0 dX2_drawAgain_0 rfl 0 rfl ?_
  refine a_iconst C0 (4 : Int32) dX2_drawAgain_1 (by decide) ?_
  obtain ⟨r_1, l0_2_2, h_3, h⟩ := bd2_e h
  refine a_callVi C0 (wdX2_1 cA q0 q1 q2 q3 q4 f0 l0_2_2 f1 f2 f3 f4) (As := [.int (4 : Int32)]) (rest := []) (ctX2_pick l D cA q0 q1 q3 (4 : Int32) f0 l0_2 h_3) (cwV 1 C0.1.2.2.2.2 gX2_drawAgain_X2_pick rfl rfl rfl hdX2_pick ⟨Nat.le_of_ble_eq_true rfl, Nat.le_of_ble_eq_true rfl⟩) [0] [1, 2, 3, 4] [4, 0, 1, 2, 3] rfl rfl rfl rfl (by decide) rfl rfl rfl rfl rfl rfl (Nat.le_of_ble_eq_true rfl) dX2_drawAgain_2 ⟨Nat.zero_le _, Nat.zero_le _⟩ ?_
  refine a_istore_n C0 [(1, .int r_1), (0, .ref q0)] dX2_drawAgain_5 rfl (by decide) rfl ?_
  refine a_aload_n C0 dX2_drawAgain_6 rfl 1 rfl ?_
  refine a_get C0 inX2_drawAgain_X2 0 rfl rfl 0 (by decide) lkX2_drawAgain_18 (fun _ h9 => h9) (.ref q1) rfl dX2_drawAgain_7 ?_
  refine a_sipush C0 (128 : Int32) dX2_drawAgain_10 (by decide) ?_
  refine a_iload_n C0 dX2_drawAgain_13 rfl 0 rfl ?_
  refine a_iadd C0 dX2_drawAgain_14 ?_
  obtain ⟨f1_4, f2_5, h_6, h⟩ := bd2_e h
  refine a_callVv C0 (wdX2_1 cA q0 q1 q2 q3 q4 f0 l0_2_2 f1_4 f2_5 f3 f4) (As := [.int ((128 : Int32) + r_1)]) (rest := []) (ctX5_append l D cA q1 q2 ((128 : Int32) + r_1) f1 f2 h_6) (cwV 1 C0.1.2.2.2.2 gX2_drawAgain_X5_append rfl rfl rfl hdX5_append ⟨Nat.le_of_ble_eq_true rfl, Nat.le_of_ble_eq_true rfl⟩) [1, 2] [0, 3, 4] [0, 3, 4, 1, 2] rfl rfl rfl rfl (by decide) rfl rfl rfl rfl rfl rfl (Nat.le_of_ble_eq_true rfl) dX2_drawAgain_15 ⟨Nat.zero_le _, Nat.zero_le _⟩ ?_
  refine a_aload_n C0 dX2_drawAgain_18 rfl 1 rfl ?_
  refine a_get C0 inX2_drawAgain_X2 0 rfl rfl 1 (by decide) lkX2_drawAgain_12 (fun _ h9 => h9) (.ref q3) rfl dX2_drawAgain_19 ?_
  obtain ⟨r_7, h_8, h⟩ := bd1_e h
  refine a_callVi C0 (wdX2_1 cA q0 q1 q2 q3 q4 f0 l0_2_2 f1_4 f2_5 f3 f4) (As := []) (rest := []) (ctX4_top l D cA q3 q4 f3 h_8) (cwV 0 C0.1.2.2.2.2 gX2_drawAgain_X4_top rfl rfl rfl hdX4_top ⟨Nat.le_of_ble_eq_true rfl, Nat.le_of_ble_eq_true rfl⟩) [3] [0, 1, 2, 4] [0, 1, 2, 4, 3] rfl rfl rfl rfl (by decide) rfl rfl rfl rfl rfl rfl (Nat.le_of_ble_eq_true rfl) dX2_drawAgain_22 ⟨Nat.zero_le _, Nat.zero_le _⟩ ?_
  refine a_istore_n C0 [(2, .int r_7), (1, .int r_1), (0, .ref q0)] dX2_drawAgain_25 rfl (by decide) rfl ?_
  refine a_aload_n C0 dX2_drawAgain_26 rfl 2 rfl ?_
  obtain ⟨l0_2_9, f1_10, f2_11, f3_12, f4_13, h_14, h⟩ := bd5_e h
  refine a_callVv C0 (wdX2_1 cA q0 q1 q2 q3 q4 f0 l0_2_9 f1_10 f2_11 f3_12 f4_13) (As := []) (rest := []) (ctX2_drawRaw l D cA q0 q1 q2 q3 q4 N f0 l0_2_2 f1_4 f2_5 f3 f4 h_14) (cwV 0 C0.1.2.2.2.2 gX2_drawAgain_X2_drawRaw rfl rfl rfl hdX2_drawRaw ⟨Nat.le_of_ble_eq_true rfl, Nat.le_of_ble_eq_true rfl⟩) [0, 1, 2, 3, 4] [] [0, 1, 2, 3, 4] rfl rfl rfl rfl (by decide) rfl rfl rfl rfl rfl rfl (Nat.le_of_ble_eq_true rfl) dX2_drawAgain_27 ⟨Nat.zero_le _, Nat.zero_le _⟩ ?_
  refine a_aload_n C0 dX2_drawAgain_30 rfl 2 rfl ?_
  refine a_get C0 inX2_drawAgain_X2 0 rfl rfl 1 (by decide) lkX2_drawAgain_12 (fun _ h9 => h9) (.ref q3) rfl dX2_drawAgain_31 ?_
  obtain ⟨r_15, h_16, h⟩ := bd1_e h
  refine a_callVi C0 (wdX2_1 cA q0 q1 q2 q3 q4 f0 l0_2_9 f1_10 f2_11 f3_12 f4_13) (As := []) (rest := []) (ctX4_top l D cA q3 q4 f3_12 h_16) (cwV 0 C0.1.2.2.2.2 gX2_drawAgain_X4_top rfl rfl rfl hdX4_top ⟨Nat.le_of_ble_eq_true rfl, Nat.le_of_ble_eq_true rfl⟩) [3] [0, 1, 2, 4] [0, 1, 2, 4, 3] rfl rfl rfl rfl (by decide) rfl rfl rfl rfl rfl rfl (Nat.le_of_ble_eq_true rfl) dX2_drawAgain_34 ⟨Nat.zero_le _, Nat.zero_le _⟩ ?_
  refine a_iload_n C0 dX2_drawAgain_37 rfl 0 rfl ?_
  refine a_isub C0 dX2_drawAgain_38 ?_
  obtain ⟨x_17, ex_17, h⟩ := lt_e h
  refine a_topi ex_17 ?_
  refine a_istore_n C0 [(3, .int x_17), (2, .int r_7), (1, .int r_1), (0, .ref q0)] dX2_drawAgain_39 rfl (by decide) rfl ?_
  refine a_aload_n C0 dX2_drawAgain_40 rfl 3 rfl ?_
  refine a_get C0 inX2_drawAgain_X2 0 rfl rfl 1 (by decide) lkX2_drawAgain_12 (fun _ h9 => h9) (.ref q3) rfl dX2_drawAgain_41 ?_
  refine a_iload_n C0 dX2_drawAgain_44 rfl 0 rfl ?_
  refine a_iload_n C0 dX2_drawAgain_45 rfl 0 rfl ?_
  refine a_sipush C0 (128 : Int32) dX2_drawAgain_46 (by decide) ?_
  refine a_iload_n C0 dX2_drawAgain_49 rfl 2 rfl ?_
  refine a_iadd C0 dX2_drawAgain_50 ?_
  obtain ⟨r_18, h_19, h⟩ := bd1_e h
  refine a_callSNi C0 (wdX2_1 cA q0 q1 q2 q3 q4 f0 l0_2_9 f1_10 f2_11 f3_12 f4_13) (As := [.int ((128 : Int32) + r_1)]) (rest := [.int x_17, .int x_17, .ref q3]) (ctX6_timesMore l D cA ((128 : Int32) + r_1) h_19) ⟨va_cnB 1 C0.1.2.2.2.2 gX2_drawAgain_X6_timesMore_n96 rfl rfl rfl (C0.2.2.2.1.2.2 (RX2, 96, yX6_timesMore, RX6) nmX2_drawAgain_96) (C0.1.2.2.2.2 (.initialized RX6) niX2_drawAgain_X6) hdX6_timesMore.2 ⟨Nat.le_of_ble_eq_true rfl, Nat.le_of_ble_eq_true rfl⟩, (C0.1.2.2.2.2 (.static yX6_timesMore) nsX2_drawAgain_X6_timesMore), trivial⟩ [] [0, 1, 2, 3, 4] [0, 1, 2, 3, 4] rfl rfl rfl rfl (by decide) rfl rfl rfl rfl (Nat.le_of_ble_eq_true rfl) dX2_drawAgain_51 ⟨Nat.zero_le _, Nat.zero_le _⟩ ?_
  refine a_imul C0 dX2_drawAgain_54 ?_
  obtain ⟨f3_20, f4_21, h_22, h⟩ := bd2_e h
  refine a_callVv C0 (wdX2_1 cA q0 q1 q2 q3 q4 f0 l0_2_9 f1_10 f2_11 f3_20 f4_21) (As := [.int x_17, .int (x_17 * r_18)]) (rest := []) (ctX4_copyFromBefore l D cA q3 q4 N x_17 (x_17 * r_18) f3_12 f4_13 h_22) (cwV 2 C0.1.2.2.2.2 gX2_drawAgain_X4_copyFromBefore rfl rfl rfl hdX4_copyFromBefore ⟨Nat.le_of_ble_eq_true rfl, Nat.le_of_ble_eq_true rfl⟩) [3, 4] [0, 1, 2] [0, 1, 2, 3, 4] rfl rfl rfl rfl (by decide) rfl rfl rfl rfl rfl rfl (Nat.le_of_ble_eq_true rfl) dX2_drawAgain_55 ⟨Nat.zero_le _, Nat.zero_le _⟩ ?_
  obtain rfl := Option.some.inj h
  exact a_vret C0 dX2_drawAgain_58 rfl
set_option maxRecDepth 100000 in
theorem ctX2_drawAgain (l : Launch) (D : va_G) (cA : ClassId) (q0 q1 q2 q3 q4 : Nat) (N : Nat) (f0 : Nat → Int32) (l0_2 : Int64) (f1 : Nat → Int32) (f2 : Nat → Int32) (f3 : Nat → Int32) (f4 : Nat → Int32) {res : Int64 × (Nat → Int32) × (Nat → Int32) × (Nat → Int32) × (Nat → Int32)} (h : pX2_drawAgain N f0 l0_2 f1 f2 f3 f4 = some res) : Ctv l yX2_drawAgain wsX2_drawAgain (rmX2_drawAgain) D vwCl [(cA, .int)] [.ref q0] (wdX2_1 cA q0 q1 q2 q3 q4 f0 l0_2 f1 f2 f3 f4) (wdX2_1 cA q0 q1 q2 q3 q4 f0 res.1 res.2.1 res.2.2.1 res.2.2.2.1 res.2.2.2.2) 0 0 :=
  ct_n (S := Unit) (maxL := 4) (cc := cX2_drawAgain) (by decide) rfl (Nat.le_of_ble_eq_true rfl) (fun p e s m below meth c _ C0 => bwX2_drawAgain C0 N f0 l0_2 f1 f2 f3 f4 h)
/-! PackDrawer$Drawer.drawCopy -/
abbrev rmX2_drawCopy : Room := { frames := 2, cells := 0, slots := 0, locals := 44 }
theorem mkX2_drawCopy_84 : Cond.methodLink RX2 84 Lib.Math.min.name ∈ wsX2_drawCopy := by decide +kernel
theorem msX2_drawCopy_min : Cond.static Lib.Math.min.name ∈ wsX2_drawCopy := by decide +kernel
theorem miX2_drawCopy : Cond.initialized "java/lang/Math" ∈ wsX2_drawCopy := by decide +kernel
theorem mcX2_drawCopy_min : Cond.code Lib.Math.min.name Lib.Math.min.code 2 (some .int) ∈ wsX2_drawCopy := by decide +kernel
theorem lkX2_drawCopy_18 : Cond.fieldLink RX2 18 RX2 (TX2 0).2.1 (TX2 0).2.2.1 ∈ wsX2_drawCopy := by decide +kernel
theorem inX2_drawCopy_X2 : ∀ w ∈ u_ws RX2 TX2 5, w ∈ wsX2_drawCopy := by decide +kernel
theorem lkX2_drawCopy_12 : Cond.fieldLink RX2 12 RX2 (TX2 1).2.1 (TX2 1).2.2.1 ∈ wsX2_drawCopy := by decide +kernel
def pX2_drawCopy (N : Nat) (a1 : Int32) (f0 : Nat → Int32) (l0_2 : Int64) (f1 : Nat → Int32) (f2 : Nat → Int32) (f3 : Nat → Int32) (f4 : Nat → Int32) : Option (Int64 × (Nat → Int32) × (Nat → Int32) × (Nat → Int32) × (Nat → Int32)) := bd2 (pX2_pick (6 : Int32) f0 l0_2) (fun r_1 l0_2_2 => bd2 (pX2_pick (if (256 : Int32) < a1 then (256 : Int32) else a1) f0 l0_2_2) (fun r_4 l0_2_5 => bd2 (pX5_append ((64 : Int32) + r_1) f1 f2) (fun f1_7 f2_8 => bd2 (pX5_append r_4 f1_7 f2_8) (fun f1_10 f2_11 => bd2 (pX4_copyFromBefore N (r_4 + (1 : Int32)) ((2 : Int32) + r_1) f3 f4) (fun f3_13 f4_14 => some (l0_2_5, f1_10, f2_11, f3_13, f4_14))))))
set_option maxHeartbeats 4000000 in
set_option maxRecDepth 100000 in
theorem bwX2_drawCopy {p : Program} {l : Launch} {e : Env} {s : State} {m : MethodId} {args : Array Value} {below : List Frame} {meth : Method} {c : Code} {D : va_G} {A : Nat → Prop} {cA : ClassId} {q0 q1 q2 q3 q4 : Nat} {res : Int64 × (Nat → Int32) × (Nat → Int32) × (Nat → Int32) × (Nat → Int32)} (C0 : cx p s m args meth c cX2_drawCopy 4 RX2 wsX2_drawCopy none D vwCl [(cA, .int)] A) (N : Nat) (a1 : Int32) (f0 : Nat → Int32) (l0_2 : Int64) (f1 : Nat → Int32) (f2 : Nat → Int32) (f3 : Nat → Int32) (f4 : Nat → Int32) (h : pX2_drawCopy N a1 f0 l0_2 f1 f2 f3 f4 = some res) : At_ p l e (rmX2_drawCopy) s m args below meth c D vwCl A 4 0 0 (Qv_ below args s D vwCl A (wdX2_1 cA q0 q1 q2 q3 q4 f0 res.1 res.2.1 res.2.2.1 res.2.2.2.1 res.2.2.2.2)) 0 [(0, .ref q0), (1, .int a1)] [] (wdX2_1 cA q0 q1 q2 q3 q4 f0 l0_2 f1 f2 f3 f4) := by
  unfold pX2_drawCopy at h
  refine a_aload_n C0 dX2_drawCopy_0 rfl 0 rfl ?_
  refine a_bipush C0 (6 : Int32) dX2_drawCopy_1 (by decide) ?_
  obtain ⟨r_1, l0_2_2, h_3, h⟩ := bd2_e h
  refine a_callVi C0 (wdX2_1 cA q0 q1 q2 q3 q4 f0 l0_2_2 f1 f2 f3 f4) (As := [.int (6 : Int32)]) (rest := []) (ctX2_pick l D cA q0 q1 q3 (6 : Int32) f0 l0_2 h_3) (cwV 1 C0.1.2.2.2.2 gX2_drawCopy_X2_pick rfl rfl rfl hdX2_pick ⟨Nat.le_of_ble_eq_true rfl, Nat.le_of_ble_eq_true rfl⟩) [0] [1, 2, 3, 4] [4, 0, 1, 2, 3] rfl rfl rfl rfl (by decide) rfl rfl rfl rfl rfl rfl (Nat.le_of_ble_eq_true rfl) dX2_drawCopy_3 ⟨Nat.zero_le _, Nat.zero_le _⟩ ?_
  refine a_istore_n C0 [(2, .int r_1), (0, .ref q0), (1, .int a1)] dX2_drawCopy_6 rfl (by decide) rfl ?_
  refine a_aload_n C0 dX2_drawCopy_7 rfl 1 rfl ?_
  refine a_iload_n C0 dX2_drawCopy_8 rfl 2 rfl ?_
  refine a_sipush C0 (256 : Int32) dX2_drawCopy_9 (by decide) ?_
  refine a_mmin C0 mkX2_drawCopy_84 msX2_drawCopy_min miX2_drawCopy mcX2_drawCopy_min (Nat.le_of_ble_eq_true rfl) (Nat.le_of_ble_eq_true rfl) (Nat.zero_le _) (Nat.zero_le _) dX2_drawCopy_12 ?_
  obtain ⟨r_4, l0_2_5, h_6, h⟩ := bd2_e h
  refine a_callVi C0 (wdX2_1 cA q0 q1 q2 q3 q4 f0 l0_2_5 f1 f2 f3 f4) (As := [.int (if (256 : Int32) < a1 then (256 : Int32) else a1)]) (rest := []) (ctX2_pick l D cA q0 q1 q3 (if (256 : Int32) < a1 then (256 : Int32) else a1) f0 l0_2_2 h_6) (cwV 1 C0.1.2.2.2.2 gX2_drawCopy_X2_pick rfl rfl rfl hdX2_pick ⟨Nat.le_of_ble_eq_true rfl, Nat.le_of_ble_eq_true rfl⟩) [0] [1, 2, 3, 4] [4, 0, 1, 2, 3] rfl rfl rfl rfl (by decide) rfl rfl rfl rfl rfl rfl (Nat.le_of_ble_eq_true rfl) dX2_drawCopy_15 ⟨Nat.zero_le _, Nat.zero_le _⟩ ?_
  refine a_istore_n C0 [(3, .int r_4), (2, .int r_1), (0, .ref q0), (1, .int a1)] dX2_drawCopy_18 rfl (by decide) rfl ?_
  refine a_aload_n C0 dX2_drawCopy_19 rfl 2 rfl ?_
  refine a_get C0 inX2_drawCopy_X2 0 rfl rfl 0 (by decide) lkX2_drawCopy_18 (fun _ h9 => h9) (.ref q1) rfl dX2_drawCopy_20 ?_
  refine a_bipush C0 (64 : Int32) dX2_drawCopy_23 (by decide) ?_
  refine a_iload_n C0 dX2_drawCopy_25 rfl 1 rfl ?_
  refine a_iadd C0 dX2_drawCopy_26 ?_
  obtain ⟨f1_7, f2_8, h_9, h⟩ := bd2_e h
  refine a_callVv C0 (wdX2_1 cA q0 q1 q2 q3 q4 f0 l0_2_5 f1_7 f2_8 f3 f4) (As := [.int ((64 : Int32) + r_1)]) (rest := []) (ctX5_append l D cA q1 q2 ((64 : Int32) + r_1) f1 f2 h_9) (cwV 1 C0.1.2.2.2.2 gX2_drawCopy_X5_append rfl rfl rfl hdX5_append ⟨Nat.le_of_ble_eq_true rfl, Nat.le_of_ble_eq_true rfl⟩) [1, 2] [0, 3, 4] [0, 3, 4, 1, 2] rfl rfl rfl rfl (by decide) rfl rfl rfl rfl rfl rfl (Nat.le_of_ble_eq_true rfl) dX2_drawCopy_27 ⟨Nat.zero_le _, Nat.zero_le _⟩ ?_
  refine a_aload_n C0 dX2_drawCopy_30 rfl 2 rfl ?_
  refine a_get C0 inX2_drawCopy_X2 0 rfl rfl 0 (by decide) lkX2_drawCopy_18 (fun _ h9 => h9) (.ref q1) rfl dX2_drawCopy_31 ?_
  refine a_iload_n C0 dX2_drawCopy_34 rfl 0 rfl ?_
  obtain ⟨f1_10, f2_11, h_12, h⟩ := bd2_e h
  refine a_callVv C0 (wdX2_1 cA q0 q1 q2 q3 q4 f0 l0_2_5 f1_10 f2_11 f3 f4) (As := [.int r_4]) (rest := []) (ctX5_append l D cA q1 q2 r_4 f1_7 f2_8 h_12) (cwV 1 C0.1.2.2.2.2 gX2_drawCopy_X5_append rfl rfl rfl hdX5_append ⟨Nat.le_of_ble_eq_true rfl, Nat.le_of_ble_eq_true rfl⟩) [1, 2] [0, 3, 4] [0, 3, 4, 1, 2] rfl rfl rfl rfl (by decide) rfl rfl rfl rfl rfl rfl (Nat.le_of_ble_eq_true rfl) dX2_drawCopy_35 ⟨Nat.zero_le _, Nat.zero_le _⟩ ?_
  refine a_aload_n C0 dX2_drawCopy_38 rfl 2 rfl ?_
  refine a_get C0 inX2_drawCopy_X2 0 rfl rfl 1 (by decide) lkX2_drawCopy_12 (fun _ h9 => h9) (.ref q3) rfl dX2_drawCopy_39 ?_
  refine a_iload_n C0 dX2_drawCopy_42 rfl 0 rfl ?_
  refine a_iconst C0 (1 : Int32) dX2_drawCopy_43 (by decide) ?_
  refine a_iadd C0 dX2_drawCopy_44 ?_
  refine a_iconst C0 (2 : Int32) dX2_drawCopy_45 (by decide) ?_
  refine a_iload_n C0 dX2_drawCopy_46 rfl 1 rfl ?_
  refine a_iadd C0 dX2_drawCopy_47 ?_
  obtain ⟨f3_13, f4_14, h_15, h⟩ := bd2_e h
  refine a_callVv C0 (wdX2_1 cA q0 q1 q2 q3 q4 f0 l0_2_5 f1_10 f2_11 f3_13 f4_14) (As := [.int (r_4 + (1 : Int32)), .int ((2 : Int32) + r_1)]) (rest := []) (ctX4_copyFromBefore l D cA q3 q4 N (r_4 + (1 : Int32)) ((2 : Int32) + r_1) f3 f4 h_15) (cwV 2 C0.1.2.2.2.2 gX2_drawCopy_X4_copyFromBefore rfl rfl rfl hdX4_copyFromBefore ⟨Nat.le_of_ble_eq_true rfl, Nat.le_of_ble_eq_true rfl⟩) [3, 4] [0, 1, 2] [0, 1, 2, 3, 4] rfl rfl rfl rfl (by decide) rfl rfl rfl rfl rfl rfl (Nat.le_of_ble_eq_true rfl) dX2_drawCopy_48 ⟨Nat.zero_le _, Nat.zero_le _⟩ ?_
  obtain rfl := Option.some.inj h
  exact a_vret C0 dX2_drawCopy_51 rfl
set_option maxRecDepth 100000 in
theorem ctX2_drawCopy (l : Launch) (D : va_G) (cA : ClassId) (q0 q1 q2 q3 q4 : Nat) (N : Nat) (a1 : Int32) (f0 : Nat → Int32) (l0_2 : Int64) (f1 : Nat → Int32) (f2 : Nat → Int32) (f3 : Nat → Int32) (f4 : Nat → Int32) {res : Int64 × (Nat → Int32) × (Nat → Int32) × (Nat → Int32) × (Nat → Int32)} (h : pX2_drawCopy N a1 f0 l0_2 f1 f2 f3 f4 = some res) : Ctv l yX2_drawCopy wsX2_drawCopy (rmX2_drawCopy) D vwCl [(cA, .int)] [.ref q0, .int a1] (wdX2_1 cA q0 q1 q2 q3 q4 f0 l0_2 f1 f2 f3 f4) (wdX2_1 cA q0 q1 q2 q3 q4 f0 res.1 res.2.1 res.2.2.1 res.2.2.2.1 res.2.2.2.2) 0 0 :=
  ct_n (S := Unit) (maxL := 4) (cc := cX2_drawCopy) (by decide) rfl (Nat.le_of_ble_eq_true rfl) (fun p e s m below meth c _ C0 => bwX2_drawCopy C0 N a1 f0 l0_2 f1 f2 f3 f4 h)
/-! PackDrawer$Drawer.drawItem -/
theorem hdX2_drawWide : yX2_drawWide.cls = RX2 ∧ yX2_drawWide.cls ≠ "java/lang/invoke/MethodHandle" ∧ yX2_drawWide.cls ≠ "java/lang/invoke/VarHandle" ∧ (parseMethodDescriptor yX2_drawWide.desc).map (fun d => d.parameters.length) = some 0 := by decide +kernel
theorem hdX2_drawInner : yX2_drawInner.cls = RX2 ∧ yX2_drawInner.cls ≠ "java/lang/invoke/MethodHandle" ∧ yX2_drawInner.cls ≠ "java/lang/invoke/VarHandle" ∧ (parseMethodDescriptor yX2_drawInner.desc).map (fun d => d.parameters.length) = some 1 := by decide +kernel
theorem hdX2_drawAgain : yX2_drawAgain.cls = RX2 ∧ yX2_drawAgain.cls ≠ "java/lang/invoke/MethodHandle" ∧ yX2_drawAgain.cls ≠ "java/lang/invoke/VarHandle" ∧ (parseMethodDescriptor yX2_drawAgain.desc).map (fun d => d.parameters.length) = some 0 := by decide +kernel
theorem hdX2_drawCopy : yX2_drawCopy.cls = RX2 ∧ yX2_drawCopy.cls ≠ "java/lang/invoke/MethodHandle" ∧ yX2_drawCopy.cls ≠ "java/lang/invoke/VarHandle" ∧ (parseMethodDescriptor yX2_drawCopy.desc).map (fun d => d.parameters.length) = some 1 := by decide +kernel
abbrev rmX2_drawItem (F Lc : Nat) : Room := { frames := F + 2, cells := 0, slots := 0, locals := Lc + 46 }
theorem lkX2_drawItem_12 : Cond.fieldLink RX2 12 RX2 (TX2 1).2.1 (TX2 1).2.2.1 ∈ wsX2_drawItem := by decide +kernel
theorem inX2_drawItem_X2 : ∀ w ∈ u_ws RX2 TX2 5, w ∈ wsX2_drawItem := by decide +kernel
def bfX2_drawItem_75 (N : Nat) (rp : Int32 → (Nat → Int32) → Int64 → (Nat → Int32) → (Nat → Int32) → (Nat → Int32) → (Nat → Int32) → Option (Int64 × (Nat → Int32) × (Nat → Int32) × (Nat → Int32) × (Nat → Int32))) (a1 : Int32) (a2 : Int32) (f0 : Nat → Int32) (v4 : Int32) (l0_2 : Int64) (f1 : Nat → Int32) (f2 : Nat → Int32) (f3 : Nat → Int32) (f4 : Nat → Int32) : Option (Int64 × (Nat → Int32) × (Nat → Int32) × (Nat → Int32) × (Nat → Int32)) := if v4 = (7 : Int32) then bd5 (pX2_drawWide N f0 l0_2 f1 f2 f3 f4) (fun l0_2_8 f1_9 f2_10 f3_11 f4_12 => some (l0_2_8, f1_9, f2_10, f3_11, f4_12)) else bd5 (pX2_drawRaw N f0 l0_2 f1 f2 f3 f4) (fun l0_2_2 f1_3 f2_4 f3_5 f4_6 => some (l0_2_2, f1_3, f2_4, f3_5, f4_6))
def bfX2_drawItem_42 (N : Nat) (rp : Int32 → (Nat → Int32) → Int64 → (Nat → Int32) → (Nat → Int32) → (Nat → Int32) → (Nat → Int32) → Option (Int64 × (Nat → Int32) × (Nat → Int32) × (Nat → Int32) × (Nat → Int32))) (a1 : Int32) (a2 : Int32) (f0 : Nat → Int32) (v4 : Int32) (l0_2 : Int64) (f1 : Nat → Int32) (f2 : Nat → Int32) (f3 : Nat → Int32) (f4 : Nat → Int32) : Option (Int64 × (Nat → Int32) × (Nat → Int32) × (Nat → Int32) × (Nat → Int32)) := if v4 = (5 : Int32) then bd5 (pX2_drawAgain N f0 l0_2 f1 f2 f3 f4) (fun l0_2_23 f1_24 f2_25 f3_26 f4_27 => some (l0_2_23, f1_24, f2_25, f3_26, f4_27)) else if v4 = (6 : Int32) then if (3 : Int32) < a2 then bfX2_drawItem_75 N rp a1 a2 f0 v4 l0_2 f1 f2 f3 f4 else bd5 (pX2_drawInner N rp a2 f0 l0_2 f1 f2 f3 f4) (fun l0_2_17 f1_18 f2_19 f3_20 f4_21 => some (l0_2_17, f1_18, f2_19, f3_20, f4_21)) else bfX2_drawItem_75 N rp a1 a2 f0 v4 l0_2 f1 f2 f3 f4
def bfX2_drawItem_30 (N : Nat) (rp : Int32 → (Nat → Int32) → Int64 → (Nat → Int32) → (Nat → Int32) → (Nat → Int32) → (Nat → Int32) → Option (Int64 × (Nat → Int32) × (Nat → Int32) × (Nat → Int32) × (Nat → Int32))) (a1 : Int32) (a2 : Int32) (f0 : Nat → Int32) (v3 : Int32) (v4 : Int32) (l0_2 : Int64) (f1 : Nat → Int32) (f2 : Nat → Int32) (f3 : Nat → Int32) (f4 : Nat → Int32) : Option (Int64 × (Nat → Int32) × (Nat → Int32) × (Nat → Int32) × (Nat → Int32)) := if v3 ≤ 0 then bfX2_drawItem_42 N rp a1 a2 f0 v4 l0_2 f1 f2 f3 f4 else bd5 (pX2_drawCopy N v3 f0 l0_2 f1 f2 f3 f4) (fun l0_2_30 f1_31 f2_32 f3_33 f4_34 => some (l0_2_30, f1_31, f2_32, f3_33, f4_34))
def pX2_drawItem (N : Nat) (rp : Int32 → (Nat → Int32) → Int64 → (Nat → Int32) → (Nat → Int32) → (Nat → Int32) → (Nat → Int32) → Option (Int64 × (Nat → Int32) × (Nat → Int32) × (Nat → Int32) × (Nat → Int32))) (a1 : Int32) (a2 : Int32) (f0 : Nat → Int32) (l0_2 : Int64) (f1 : Nat → Int32) (f2 : Nat → Int32) (f3 : Nat → Int32) (f4 : Nat → Int32) : Option (Int64 × (Nat → Int32) × (Nat → Int32) × (Nat → Int32) × (Nat → Int32)) := bd1 (pX4_top f3) (fun r_36 => lt_ ((r_36 - a1)) (fun x_38 => bd2 (pX2_pick (8 : Int32) f0 l0_2) (fun r_39 l0_2_40 => if r_39 = (3 : Int32) then bfX2_drawItem_30 N rp a1 a2 f0 x_38 r_39 l0_2_40 f1 f2 f3 f4 else if r_39 = (4 : Int32) then bfX2_drawItem_30 N rp a1 a2 f0 x_38 r_39 l0_2_40 f1 f2 f3 f4 else bfX2_drawItem_42 N rp a1 a2 f0 r_39 l0_2_40 f1 f2 f3 f4)))
set_option maxHeartbeats 4000000 in
set_option maxRecDepth 100000 in
theorem bwX2_drawItem_75 {p : Program} {l : Launch} {e : Env} {s : State} {m : MethodId} {args : Array Value} {below : List Frame} {meth : Method} {c : Code} {D : va_G} {A : Nat → Prop} {cA : ClassId} {q0 q1 q2 q3 q4 : Nat} {res : Int64 × (Nat → Int32) × (Nat → Int32) × (Nat → Int32) × (Nat → Int32)} {F Lc : Nat} (C0 : cx p s m args meth c cX2_drawItem 5 RX2 wsX2_drawItem none D vwCl [(cA, .int)] A) (N : Nat) (rp : Int32 → (Nat → Int32) → Int64 → (Nat → Int32) → (Nat → Int32) → (Nat → Int32) → (Nat → Int32) → Option (Int64 × (Nat → Int32) × (Nat → Int32) × (Nat → Int32) × (Nat → Int32))) (a1 : Int32) (a2 : Int32) (f0 : Nat → Int32) (hF : 4 ≤ F) (hL : 91 ≤ Lc) (hrp : ∀ (q0 q1 q2 q3 q4 : Nat) (b1 : Int32) (f0 : Nat → Int32) (l0_2 : Int64) (f1 : Nat → Int32) (f2 : Nat → Int32) (f3 : Nat → Int32) (f4 : Nat → Int32) {rs : Int64 × (Nat → Int32) × (Nat → Int32) × (Nat → Int32) × (Nat → Int32)}, rp b1 f0 l0_2 f1 f2 f3 f4 = some rs → Ctv l yX2_drawPack wsX2_drawPack { frames := F, cells := 0, slots := 0, locals := Lc } D vwCl [(cA, .int)] [.ref q0, .int b1] (wdX2_1 cA q0 q1 q2 q3 q4 f0 l0_2 f1 f2 f3 f4) (wdX2_1 cA q0 q1 q2 q3 q4 f0 rs.1 rs.2.1 rs.2.2.1 rs.2.2.2.1 rs.2.2.2.2) 0 0) (v4 : Int32) (l0_2 : Int64) (f1 : Nat → Int32) (f2 : Nat → Int32) (f3 : Nat → Int32) (f4 : Nat → Int32) (h : bfX2_drawItem_75 N rp a1 a2 f0  v4 l0_2 f1 f2 f3 f4 = some res) : At_ p l e (rmX2_drawItem F Lc) s m args below meth c D vwCl A 5 0 0 (Qv_ below args s D vwCl A (wdX2_1 cA q0 q1 q2 q3 q4 f0 res.1 res.2.1 res.2.2.1 res.2.2.2.1 res.2.2.2.2)) 75 [(0, .ref q0), (1, .int a1), (2, .int a2), (4, .int v4)] [] (wdX2_1 cA q0 q1 q2 q3 q4 f0 l0_2 f1 f2 f3 f4) := by
  unfold bfX2_drawItem_75 at h
  refine a_iload C0 dX2_drawItem_75 3 rfl ?_
  refine a_bipush C0 (7 : Int32) dX2_drawItem_77 (by decide) ?_
  refine a_icmp_ne C0 89 dX2_drawItem_79 (by decide) (fun c_1 => ?_) (fun c_1 => ?_)
  · have h := ie_ c_1 h
    refine a_aload_n C0 dX2_drawItem_89 rfl 0 rfl ?_
    obtain ⟨l0_2_2, f1_3, f2_4, f3_5, f4_6, h_7, h⟩ := bd5_e h
    refine a_callVv C0 (wdX2_1 cA q0 q1 q2 q3 q4 f0 l0_2_2 f1_3 f2_4 f3_5 f4_6) (As := []) (rest := []) (ctX2_drawRaw l D cA q0 q1 q2 q3 q4 N f0 l0_2 f1 f2 f3 f4 h_7) (cwV 0 C0.1.2.2.2.2 gX2_drawItem_X2_drawRaw rfl rfl rfl hdX2_drawRaw ⟨by dsimp only; omega, by dsimp only; omega⟩) [0, 1, 2, 3, 4] [] [0, 1, 2, 3, 4] rfl rfl rfl rfl (by decide) rfl rfl rfl rfl rfl rfl (Nat.le_of_ble_eq_true rfl) dX2_drawItem_90 ⟨Nat.zero_le _, Nat.zero_le _⟩ ?_
    obtain rfl := Option.some.inj h
    exact a_vret C0 dX2_drawItem_93 rfl
  · have h := it_ c_1 h
    refine a_aload_n C0 dX2_drawItem_82 rfl 0 rfl ?_
    obtain ⟨l0_2_8, f1_9, f2_10, f3_11, f4_12, h_13, h⟩ := bd5_e h
    refine a_callVv C0 (wdX2_1 cA q0 q1 q2 q3 q4 f0 l0_2_8 f1_9 f2_10 f3_11 f4_12) (As := []) (rest := []) (ctX2_drawWide l D cA q0 q1 q2 q3 q4 N f0 l0_2 f1 f2 f3 f4 h_13) (cwV 0 C0.1.2.2.2.2 gX2_drawItem_X2_drawWide rfl rfl rfl hdX2_drawWide ⟨by dsimp only; omega, by dsimp only; omega⟩) [0, 1, 2, 3, 4] [] [0, 1, 2, 3, 4] rfl rfl rfl rfl (by decide) rfl rfl rfl rfl rfl rfl (Nat.le_of_ble_eq_true rfl) dX2_drawItem_83 ⟨Nat.zero_le _, Nat.zero_le _⟩ ?_
    refine a_goto C0 93 dX2_drawItem_86 (by decide) ?_
    obtain rfl := Option.some.inj h
    exact a_vret C0 dX2_drawItem_93 rfl
set_option maxHeartbeats 4000000 in
set_option maxRecDepth 100000 in
theorem bwX2_drawItem_42 {p : Program} {l : Launch} {e : Env} {s : State} {m : MethodId} {args : Array Value} {below : List Frame} {meth : Method} {c : Code} {D : va_G} {A : Nat → Prop} {cA : ClassId} {q0 q1 q2 q3 q4 : Nat} {res : Int64 × (Nat → Int32) × (Nat → Int32) × (Nat → Int32) × (Nat → Int32)} {F Lc : Nat} (C0 : cx p s m args meth c cX2_drawItem 5 RX2 wsX2_drawItem none D vwCl [(cA, .int)] A) (N : Nat) (rp : Int32 → (Nat → Int32) → Int64 → (Nat → Int32) → (Nat → Int32) → (Nat → Int32) → (Nat → Int32) → Option (Int64 × (Nat → Int32) × (Nat → Int32) × (Nat → Int32) × (Nat → Int32))) (a1 : Int32) (a2 : Int32) (f0 : Nat → Int32) (hF : 4 ≤ F) (hL : 91 ≤ Lc) (hrp : ∀ (q0 q1 q2 q3 q4 : Nat) (b1 : Int32) (f0 : Nat → Int32) (l0_2 : Int64) (f1 : Nat → Int32) (f2 : Nat → Int32) (f3 : Nat → Int32) (f4 : Nat → Int32) {rs : Int64 × (Nat → Int32) × (Nat → Int32) × (Nat → Int32) × (Nat → Int32)}, rp b1 f0 l0_2 f1 f2 f3 f4 = some rs → Ctv l yX2_drawPack wsX2_drawPack { frames := F, cells := 0, slots := 0, locals := Lc } D vwCl [(cA, .int)] [.ref q0, .int b1] (wdX2_1 cA q0 q1 q2 q3 q4 f0 l0_2 f1 f2 f3 f4) (wdX2_1 cA q0 q1 q2 q3 q4 f0 rs.1 rs.2.1 rs.2.2.1 rs.2.2.2.1 rs.2.2.2.2) 0 0) (v4 : Int32) (l0_2 : Int64) (f1 : Nat → Int32) (f2 : Nat → Int32) (f3 : Nat → Int32) (f4 : Nat → Int32) (h : bfX2_drawItem_42 N rp a1 a2 f0  v4 l0_2 f1 f2 f3 f4 = some res) : At_ p l e (rmX2_drawItem F Lc) s m args below meth c D vwCl A 5 0 0 (Qv_ below args s D vwCl A (wdX2_1 cA q0 q1 q2 q3 q4 f0 res.1 res.2.1 res.2.2.1 res.2.2.2.1 res.2.2.2.2)) 42 [(0, .ref q0), (1, .int a1), (2, .int a2), (4, .int v4)] [] (wdX2_1 cA q0 q1 q2 q3 q4 f0 l0_2 f1 f2 f3 f4) := by
  unfold bfX2_drawItem_42 at h
  refine a_iload C0 dX2_drawItem_42 3 rfl ?_
  refine a_iconst C0 (5 : Int32) dX2_drawItem_44 (by decide) ?_
  refine a_icmp_ne C0 55 dX2_drawItem_45 (by decide) (fun c_14 => ?_) (fun c_14 => ?_)
  · have h := ie_ c_14 h
    refine a_iload C0 dX2_drawItem_55 3 rfl ?_
    refine a_bipush C0 (6 : Int32) dX2_drawItem_57 (by decide) ?_
    refine a_icmp_ne C0 75 dX2_drawItem_59 (by decide) (fun c_15 => ?_) (fun c_15 => ?_)
    · have h := ie_ c_15 h
      exact bwX2_drawItem_75 C0 N rp a1 a2 f0 hF hL hrp v4 l0_2 f1 f2 f3 f4 h
    · have h := it_ c_15 h
      refine a_iload_n C0 dX2_drawItem_62 rfl 2 rfl ?_
      refine a_iconst C0 (3 : Int32) dX2_drawItem_63 (by decide) ?_
      refine a_icmp_gt C0 75 dX2_drawItem_64 (by decide) (fun c_16 => ?_) (fun c_16 => ?_)
      · have h := it_ c_16 h
        exact bwX2_drawItem_75 C0 N rp a1 a2 f0 hF hL hrp v4 l0_2 f1 f2 f3 f4 h
      · have h := ie_ c_16 h
        refine a_aload_n C0 dX2_drawItem_67 rfl 0 rfl ?_
        refine a_iload_n C0 dX2_drawItem_68 rfl 2 rfl ?_
        obtain ⟨l0_2_17, f1_18, f2_19, f3_20, f4_21, h_22, h⟩ := bd5_e h
        refine a_callVv C0 (wdX2_1 cA q0 q1 q2 q3 q4 f0 l0_2_17 f1_18 f2_19 f3_20 f4_21) (As := [.int a2]) (rest := []) (ctX2_drawInner l D cA q0 q1 q2 q3 q4 F Lc hF hL N rp hrp a2 f0 l0_2 f1 f2 f3 f4 h_22) (cwV 1 C0.1.2.2.2.2 gX2_drawItem_X2_drawInner rfl rfl rfl hdX2_drawInner ⟨by dsimp only; omega, by dsimp only; omega⟩) [0, 1, 2, 3, 4] [] [0, 1, 2, 3, 4] rfl rfl rfl rfl (by decide) rfl rfl rfl rfl rfl rfl (Nat.le_of_ble_eq_true rfl) dX2_drawItem_69 ⟨Nat.zero_le _, Nat.zero_le _⟩ ?_
        refine a_goto C0 93 dX2_drawItem_72 (by decide) ?_
        obtain rfl := Option.some.inj h
        exact a_vret C0 dX2_drawItem_93 rfl
  · have h := it_ c_14 h
    refine a_aload_n C0 dX2_drawItem_48 rfl 0 rfl ?_
    obtain ⟨l0_2_23, f1_24, f2_25, f3_26, f4_27, h_28, h⟩ := bd5_e h
    refine a_callVv C0 (wdX2_1 cA q0 q1 q2 q3 q4 f0 l0_2_23 f1_24 f2_25 f3_26 f4_27) (As := []) (rest := []) (ctX2_drawAgain l D cA q0 q1 q2 q3 q4 N f0 l0_2 f1 f2 f3 f4 h_28) (cwV 0 C0.1.2.2.2.2 gX2_drawItem_X2_drawAgain rfl rfl rfl hdX2_drawAgain ⟨by dsimp only; omega, by dsimp only; omega⟩) [0, 1, 2, 3, 4] [] [0, 1, 2, 3, 4] rfl rfl rfl rfl (by decide) rfl rfl rfl rfl rfl rfl (Nat.le_of_ble_eq_true rfl) dX2_drawItem_49 ⟨Nat.zero_le _, Nat.zero_le _⟩ ?_
    refine a_goto C0 93 dX2_drawItem_52 (by decide) ?_
    obtain rfl := Option.some.inj h
    exact a_vret C0 dX2_drawItem_93 rfl
set_option maxHeartbeats 4000000 in
set_option maxRecDepth 100000 in
theorem bwX2_drawItem_30 {p : Program} {l : Launch} {e : Env} {s : State} {m : MethodId} {args : Array Value} {below : List Frame} {meth : Method} {c : Code} {D : va_G} {A : Nat → Prop} {cA : ClassId} {q0 q1 q2 q3 q4 : Nat} {res : Int64 × (Nat → Int32) × (Nat → Int32) × (Nat → Int32) × (Nat → Int32)} {F Lc : Nat} (C0 : cx p s m args meth c cX2_drawItem 5 RX2 wsX2_drawItem none D vwCl [(cA, .int)] A) (N : Nat) (rp : Int32 → (Nat → Int32) → Int64 → (Nat → Int32) → (Nat → Int32) → (Nat → Int32) → (Nat → Int32) → Option (Int64 × (Nat → Int32) × (Nat → Int32) × (Nat → Int32) × (Nat → Int32))) (a1 : Int32) (a2 : Int32) (f0 : Nat → Int32) (hF : 4 ≤ F) (hL : 91 ≤ Lc) (hrp : ∀ (q0 q1 q2 q3 q4 : Nat) (b1 : Int32) (f0 : Nat → Int32) (l0_2 : Int64) (f1 : Nat → Int32) (f2 : Nat → Int32) (f3 : Nat → Int32) (f4 : Nat → Int32) {rs : Int64 × (Nat → Int32) × (Nat → Int32) × (Nat → Int32) × (Nat → Int32)}, rp b1 f0 l0_2 f1 f2 f3 f4 = some rs → Ctv l yX2_drawPack wsX2_drawPack { frames := F, cells := 0, slots := 0, locals := Lc } D vwCl [(cA, .int)] [.ref q0, .int b1] (wdX2_1 cA q0 q1 q2 q3 q4 f0 l0_2 f1 f2 f3 f4) (wdX2_1 cA q0 q1 q2 q3 q4 f0 rs.1 rs.2.1 rs.2.2.1 rs.2.2.2.1 rs.2.2.2.2) 0 0) (v3 : Int32) (v4 : Int32) (l0_2 : Int64) (f1 : Nat → Int32) (f2 : Nat → Int32) (f3 : Nat → Int32) (f4 : Nat → Int32) (h : bfX2_drawItem_30 N rp a1 a2 f0  v3 v4 l0_2 f1 f2 f3 f4 = some res) : At_ p l e (rmX2_drawItem F Lc) s m args below meth c D vwCl A 5 0 0 (Qv_ below args s D vwCl A (wdX2_1 cA q0 q1 q2 q3 q4 f0 res.1 res.2.1 res.2.2.1 res.2.2.2.1 res.2.2.2.2)) 30 [(0, .ref q0), (1, .int a1), (2, .int a2), (3, .int v3), (4, .int v4)] [] (wdX2_1 cA q0 q1 q2 q3 q4 f0 l0_2 f1 f2 f3 f4) := by
  unfold bfX2_drawItem_30 at h
  refine a_iload_n C0 dX2_drawItem_30 rfl 3 rfl ?_
  refine a_if_le C0 42 dX2_drawItem_31 (by decide) (fun c_29 => ?_) (fun c_29 => ?_)
  · have h := it_ c_29 h
    refine a_lv [0, 1, 2, 4] (lv' := [(0, .ref q0), (1, .int a1), (2, .int a2), (4, .int v4)]) rfl ?_
    exact bwX2_drawItem_42 C0 N rp a1 a2 f0 hF hL hrp v4 l0_2 f1 f2 f3 f4 h
  · have h := ie_ c_29 h
    refine a_aload_n C0 dX2_drawItem_34 rfl 0 rfl ?_
    refine a_iload_n C0 dX2_drawItem_35 rfl 3 rfl ?_
    obtain ⟨l0_2_30, f1_31, f2_32, f3_33, f4_34, h_35, h⟩ := bd5_e h
    refine a_callVv C0 (wdX2_1 cA q0 q1 q2 q3 q4 f0 l0_2_30 f1_31 f2_32 f3_33 f4_34) (As := [.int v3]) (rest := []) (ctX2_drawCopy l D cA q0 q1 q2 q3 q4 N v3 f0 l0_2 f1 f2 f3 f4 h_35) (cwV 1 C0.1.2.2.2.2 gX2_drawItem_X2_drawCopy rfl rfl rfl hdX2_drawCopy ⟨by dsimp only; omega, by dsimp only; omega⟩) [0, 1, 2, 3, 4] [] [0, 1, 2, 3, 4] rfl rfl rfl rfl (by decide) rfl rfl rfl rfl rfl rfl (Nat.le_of_ble_eq_true rfl) dX2_drawItem_36 ⟨Nat.zero_le _, Nat.zero_le _⟩ ?_
    refine a_goto C0 93 dX2_drawItem_39 (by decide) ?_
    obtain rfl := Option.some.inj h
    exact a_vret C0 dX2_drawItem_93 rfl
set_option maxHeartbeats 4000000 in
set_option maxRecDepth 100000 in
theorem bwX2_drawItem {p : Program} {l : Launch} {e : Env} {s : State} {m : MethodId} {args : Array Value} {below : List Frame} {meth : Method} {c : Code} {D : va_G} {A : Nat → Prop} {cA : ClassId} {q0 q1 q2 q3 q4 : Nat} {res : Int64 × (Nat → Int32) × (Nat → Int32) × (Nat → Int32) × (Nat → Int32)} {F Lc : Nat} (C0 : cx p s m args meth c cX2_drawItem 5 RX2 wsX2_drawItem none D vwCl [(cA, .int)] A) (N : Nat) (rp : Int32 → (Nat → Int32) → Int64 → (Nat → Int32) → (Nat → Int32) → (Nat → Int32) → (Nat → Int32) → Option (Int64 × (Nat → Int32) × (Nat → Int32) × (Nat → Int32) × (Nat → Int32))) (a1 : Int32) (a2 : Int32) (f0 : Nat → Int32) (l0_2 : Int64) (f1 : Nat → Int32) (f2 : Nat → Int32) (f3 : Nat → Int32) (f4 : Nat → Int32) (hF : 4 ≤ F) (hL : 91 ≤ Lc) (hrp : ∀ (q0 q1 q2 q3 q4 : Nat) (b1 : Int32) (f0 : Nat → Int32) (l0_2 : Int64) (f1 : Nat → Int32) (f2 : Nat → Int32) (f3 : Nat → Int32) (f4 : Nat → Int32) {rs : Int64 × (Nat → Int32) × (Nat → Int32) × (Nat → Int32) × (Nat → Int32)}, rp b1 f0 l0_2 f1 f2 f3 f4 = some rs → Ctv l yX2_drawPack wsX2_drawPack { frames := F, cells := 0, slots := 0, locals := Lc } D vwCl [(cA, .int)] [.ref q0, .int b1] (wdX2_1 cA q0 q1 q2 q3 q4 f0 l0_2 f1 f2 f3 f4) (wdX2_1 cA q0 q1 q2 q3 q4 f0 rs.1 rs.2.1 rs.2.2.1 rs.2.2.2.1 rs.2.2.2.2) 0 0) (h : pX2_drawItem N rp a1 a2 f0 l0_2 f1 f2 f3 f4 = some res) : At_ p l e (rmX2_drawItem F Lc) s m args below meth c D vwCl A 5 0 0 (Qv_ below args s D vwCl A (wdX2_1 cA q0 q1 q2 q3 q4 f0 res.1 res.2.1 res.2.2.1 res.2.2.2.1 res.2.2.2.2)) 0 [(0, .ref q0), (1, .int a1), (2, .int a2)] [] (wdX2_1 cA q0 q1 q2 q3 q4 f0 l0_2 f1 f2 f3 f4) := by
  unfold pX2_drawItem at h
  refine a_aload_n C0 dX2_drawItem_0 rfl 0 rfl ?_
  refine a_get C0 inX2_drawItem_X2 0 rfl rfl 1 (by decide) lkX2_drawItem_12 (fun _ h9 => h9) (.ref q3) rfl dX2_drawItem_1 ?_
  obtain ⟨r_36, h_37, h⟩ := bd1_e h
  refine a_callVi C0 (wdX2_1 cA q0 q1 q2 q3 q4 f0 l0_2 f1 f2 f3 f4) (As := []) (rest := []) (ctX4_top l D cA q3 q4 f3 h_37) (cwV 0 C0.1.2.2.2.2 gX2_drawItem_X4_top rfl rfl rfl hdX4_top ⟨by dsimp only; omega, by dsimp only; omega⟩) [3] [0, 1, 2, 4] [0, 1, 2, 4, 3] rfl rfl rfl rfl (by decide) rfl rfl rfl rfl rfl rfl (Nat.le_of_ble_eq_true rfl) dX2_drawItem_4 ⟨Nat.zero_le _, Nat.zero_le _⟩ ?_
  refine a_iload_n C0 dX2_drawItem_7 rfl 1 rfl ?_
  refine a_isub C0 dX2_drawItem_8 ?_
  obtain ⟨x_38, ex_38, h⟩ := lt_e h
  refine a_topi ex_38 ?_
  refine a_istore_n C0 [(3, .int x_38), (0, .ref q0), (1, .int a1), (2, .int a2)] dX2_drawItem_9 rfl (by decide) rfl ?_
  refine a_aload_n C0 dX2_drawItem_10 rfl 1 rfl ?_
  refine a_bipush C0 (8 : Int32) dX2_drawItem_11 (by decide) ?_
  obtain ⟨r_39, l0_2_40, h_41, h⟩ := bd2_e h
  refine a_callVi C0 (wdX2_1 cA q0 q1 q2 q3 q4 f0 l0_2_40 f1 f2 f3 f4) (As := [.int (8 : Int32)]) (rest := []) (ctX2_pick l D cA q0 q1 q3 (8 : Int32) f0 l0_2 h_41) (cwV 1 C0.1.2.2.2.2 gX2_drawItem_X2_pick rfl rfl rfl hdX2_pick ⟨by dsimp only; omega, by dsimp only; omega⟩) [0] [1, 2, 3, 4] [4, 0, 1, 2, 3] rfl rfl rfl rfl (by decide) rfl rfl rfl rfl rfl rfl (Nat.le_of_ble_eq_true rfl) dX2_drawItem_13 ⟨Nat.zero_le _, Nat.zero_le _⟩ ?_
  refine a_istore C0 [(4, .int r_39), (3, .int x_38), (0, .ref q0), (1, .int a1), (2, .int a2)] dX2_drawItem_16 (by decide) rfl ?_
  refine a_iload C0 dX2_drawItem_18 0 rfl ?_
  refine a_iconst C0 (3 : Int32) dX2_drawItem_20 (by decide) ?_
  refine a_icmp_eq C0 30 dX2_drawItem_21 (by decide) (fun c_42 => ?_) (fun c_42 => ?_)
  · have h := it_ c_42 h
    refine a_lv [2, 3, 4, 1, 0] (lv' := [(0, .ref q0), (1, .int a1), (2, .int a2), (3, .int x_38), (4, .int r_39)]) rfl ?_
    exact bwX2_drawItem_30 C0 N rp a1 a2 f0 hF hL hrp x_38 r_39 l0_2_40 f1 f2 f3 f4 h
  · have h := ie_ c_42 h
    refine a_iload C0 dX2_drawItem_24 0 rfl ?_
    refine a_iconst C0 (4 : Int32) dX2_drawItem_26 (by decide) ?_
    refine a_icmp_ne C0 42 dX2_drawItem_27 (by decide) (fun c_43 => ?_) (fun c_43 => ?_)
    · have h := ie_ c_43 h
      refine a_lv [2, 3, 4, 0] (lv' := [(0, .ref q0), (1, .int a1), (2, .int a2), (4, .int r_39)]) rfl ?_
      exact bwX2_drawItem_42 C0 N rp a1 a2 f0 hF hL hrp r_39 l0_2_40 f1 f2 f3 f4 h
    · have h := it_ c_43 h
      refine a_lv [2, 3, 4, 1, 0] (lv' := [(0, .ref q0), (1, .int a1), (2, .int a2), (3, .int x_38), (4, .int r_39)]) rfl ?_
      exact bwX2_drawItem_30 C0 N rp a1 a2 f0 hF hL hrp x_38 r_39 l0_2_40 f1 f2 f3 f4 h
set_option maxRecDepth 100000 in
theorem ctX2_drawItem (l : Launch) (D : va_G) (cA : ClassId) (q0 q1 q2 q3 q4 : Nat) (F Lc : Nat) (hF : 4 ≤ F) (hL : 91 ≤ Lc) (N : Nat) (rp : Int32 → (Nat → Int32) → Int64 → (Nat → Int32) → (Nat → Int32) → (Nat → Int32) → (Nat → Int32) → Option (Int64 × (Nat → Int32) × (Nat → Int32) × (Nat → Int32) × (Nat → Int32))) (hrp : ∀ (q0 q1 q2 q3 q4 : Nat) (b1 : Int32) (f0 : Nat → Int32) (l0_2 : Int64) (f1 : Nat → Int32) (f2 : Nat → Int32) (f3 : Nat → Int32) (f4 : Nat → Int32) {rs : Int64 × (Nat → Int32) × (Nat → Int32) × (Nat → Int32) × (Nat → Int32)}, rp b1 f0 l0_2 f1 f2 f3 f4 = some rs → Ctv l yX2_drawPack wsX2_drawPack { frames := F, cells := 0, slots := 0, locals := Lc } D vwCl [(cA, .int)] [.ref q0, .int b1] (wdX2_1 cA q0 q1 q2 q3 q4 f0 l0_2 f1 f2 f3 f4) (wdX2_1 cA q0 q1 q2 q3 q4 f0 rs.1 rs.2.1 rs.2.2.1 rs.2.2.2.1 rs.2.2.2.2) 0 0) (a1 : Int32) (a2 : Int32) (f0 : Nat → Int32) (l0_2 : Int64) (f1 : Nat → Int32) (f2 : Nat → Int32) (f3 : Nat → Int32) (f4 : Nat → Int32) {res : Int64 × (Nat → Int32) × (Nat → Int32) × (Nat → Int32) × (Nat → Int32)} (h : pX2_drawItem N rp a1 a2 f0 l0_2 f1 f2 f3 f4 = some res) : Ctv l yX2_drawItem wsX2_drawItem (rmX2_drawItem F Lc) D vwCl [(cA, .int)] [.ref q0, .int a1, .int a2] (wdX2_1 cA q0 q1 q2 q3 q4 f0 l0_2 f1 f2 f3 f4) (wdX2_1 cA q0 q1 q2 q3 q4 f0 res.1 res.2.1 res.2.2.1 res.2.2.2.1 res.2.2.2.2) 0 0 :=
  ct_n (S := Unit) (maxL := 5) (cc := cX2_drawItem) (by decide) rfl (Nat.le_of_ble_eq_true rfl) (fun p e s m below meth c _ C0 => bwX2_drawItem C0 N rp a1 a2 f0 l0_2 f1 f2 f3 f4 hF hL hrp h)
/-! PackDrawer$Drawer.drawPack -/
theorem hdX2_drawEnd : yX2_drawEnd.cls = RX2 ∧ yX2_drawEnd.cls ≠ "java/lang/invoke/MethodHandle" ∧ yX2_drawEnd.cls ≠ "java/lang/invoke/VarHandle" ∧ (parseMethodDescriptor yX2_drawEnd.desc).map (fun d => d.parameters.length) = some 1 := by decide +kernel
theorem hdX2_drawItem : yX2_drawItem.cls = RX2 ∧ yX2_drawItem.cls ≠ "java/lang/invoke/MethodHandle" ∧ yX2_drawItem.cls ≠ "java/lang/invoke/VarHandle" ∧ (parseMethodDescriptor yX2_drawItem.desc).map (fun d => d.parameters.length) = some 2 := by decide +kernel
abbrev rmX2_drawPack (F Lc : Nat) : Room := { frames := F + 3, cells := 0, slots := 0, locals := Lc + 70 }
theorem lkX2_drawPack_18 : Cond.fieldLink RX2 18 RX2 (TX2 0).2.1 (TX2 0).2.2.1 ∈ wsX2_drawPack := by decide +kernel
theorem inX2_drawPack_X2 : ∀ w ∈ u_ws RX2 TX2 5, w ∈ wsX2_drawPack := by decide +kernel
theorem lkX2_drawPack_12 : Cond.fieldLink RX2 12 RX2 (TX2 1).2.1 (TX2 1).2.2.1 ∈ wsX2_drawPack := by decide +kernel
theorem lkX2_drawPack_39 : Cond.fieldLink RX2 39 RX2 (TX2 4).2.1 (TX2 4).2.2.1 ∈ wsX2_drawPack := by decide +kernel
def bfX2_drawPack_52 (N : Nat) (rp : Int32 → (Nat → Int32) → Int64 → (Nat → Int32) → (Nat → Int32) → (Nat → Int32) → (Nat → Int32) → Option (Int64 × (Nat → Int32) × (Nat → Int32) × (Nat → Int32) × (Nat → Int32))) (a1 : Int32) (f0 : Nat → Int32) (v2 : Int32) (l0_2 : Int64) (f1 : Nat → Int32) (f2 : Nat → Int32) (f3 : Nat → Int32) (f4 : Nat → Int32) : Option (Int64 × (Nat → Int32) × (Nat → Int32) × (Nat → Int32) × (Nat → Int32)) := bd2 (pX2_drawEnd N v2 f0 l0_2 f1 f2 f3 f4) (fun f1_1 f2_2 => some (l0_2, f1_1, f2_2, f3, f4))
def bFX2_drawPack_22 (N : Nat) (rp : Int32 → (Nat → Int32) → Int64 → (Nat → Int32) → (Nat → Int32) → (Nat → Int32) → (Nat → Int32) → Option (Int64 × (Nat → Int32) × (Nat → Int32) × (Nat → Int32) × (Nat → Int32))) (a1 : Int32) (f0 : Nat → Int32) (rc22 : Int32 → Int32 → Int32 → Int64 → (Nat → Int32) → (Nat → Int32) → (Nat → Int32) → (Nat → Int32) → Option (Int64 × (Nat → Int32) × (Nat → Int32) × (Nat → Int32) × (Nat → Int32))) (v2 : Int32) (v3 : Int32) (v4 : Int32) (l0_2 : Int64) (f1 : Nat → Int32) (f2 : Nat → Int32) (f3 : Nat → Int32) (f4 : Nat → Int32) : Option (Int64 × (Nat → Int32) × (Nat → Int32) × (Nat → Int32) × (Nat → Int32)) := if v3 ≤ v4 then bfX2_drawPack_52 N rp a1 f0 v2 l0_2 f1 f2 f3 f4 else bd1 (pX5_count f1) (fun r_5 => if (100 : Int32) ≤ r_5 then bfX2_drawPack_52 N rp a1 f0 v2 l0_2 f1 f2 f3 f4 else bd5 (pX2_drawItem N rp v2 a1 f0 l0_2 f1 f2 f3 f4) (fun l0_2_8 f1_9 f2_10 f3_11 f4_12 => lt_ ((v4 + (1 : Int32))) (fun x_14 => rc22 v2 v3 x_14 l0_2_8 f1_9 f2_10 f3_11 f4_12)))
def bfX2_drawPack_22 (N : Nat) (rp : Int32 → (Nat → Int32) → Int64 → (Nat → Int32) → (Nat → Int32) → (Nat → Int32) → (Nat → Int32) → Option (Int64 × (Nat → Int32) × (Nat → Int32) × (Nat → Int32) × (Nat → Int32))) (a1 : Int32) (f0 : Nat → Int32) : Nat → Int32 → Int32 → Int32 → Int64 → (Nat → Int32) → (Nat → Int32) → (Nat → Int32) → (Nat → Int32) → Option (Int64 × (Nat → Int32) × (Nat → Int32) × (Nat → Int32) × (Nat → Int32))
  | 0 => fun _ _ _ _ _ _ _ _ => none
  | n + 1 => bFX2_drawPack_22 N rp a1 f0  (bfX2_drawPack_22 N rp a1 f0  n)
def pX2_drawPack (N : Nat) (rp : Int32 → (Nat → Int32) → Int64 → (Nat → Int32) → (Nat → Int32) → (Nat → Int32) → (Nat → Int32) → Option (Int64 × (Nat → Int32) × (Nat → Int32) × (Nat → Int32) × (Nat → Int32))) (a1 : Int32) (f0 : Nat → Int32) (l0_2 : Int64) (f1 : Nat → Int32) (f2 : Nat → Int32) (f3 : Nat → Int32) (f4 : Nat → Int32) : Option (Int64 × (Nat → Int32) × (Nat → Int32) × (Nat → Int32) × (Nat → Int32)) := bd1 (pX4_top f3) (fun r_15 => bd2 (pX2_pick (f0 4) f0 l0_2) (fun r_17 l0_2_18 => lt_ (((1 : Int32) + r_17)) (fun x_20 => bfX2_drawPack_22 N rp a1 f0 N r_15 x_20 (0 : Int32) l0_2_18 f1 f2 f3 f4)))
set_option maxHeartbeats 4000000 in
set_option maxRecDepth 100000 in
theorem bwX2_drawPack_52 {p : Program} {l : Launch} {e : Env} {s : State} {m : MethodId} {args : Array Value} {below : List Frame} {meth : Method} {c : Code} {D : va_G} {A : Nat → Prop} {cA : ClassId} {q0 q1 q2 q3 q4 : Nat} {res : Int64 × (Nat → Int32) × (Nat → Int32) × (Nat → Int32) × (Nat → Int32)} {F Lc : Nat} (C0 : cx p s m args meth c cX2_drawPack 5 RX2 wsX2_drawPack none D vwCl [(cA, .int)] A) (N : Nat) (rp : Int32 → (Nat → Int32) → Int64 → (Nat → Int32) → (Nat → Int32) → (Nat → Int32) → (Nat → Int32) → Option (Int64 × (Nat → Int32) × (Nat → Int32) × (Nat → Int32) × (Nat → Int32))) (a1 : Int32) (f0 : Nat → Int32) (hF : 4 ≤ F) (hL : 91 ≤ Lc) (hrp : ∀ (q0 q1 q2 q3 q4 : Nat) (b1 : Int32) (f0 : Nat → Int32) (l0_2 : Int64) (f1 : Nat → Int32) (f2 : Nat → Int32) (f3 : Nat → Int32) (f4 : Nat → Int32) {rs : Int64 × (Nat → Int32) × (Nat → Int32) × (Nat → Int32) × (Nat → Int32)}, rp b1 f0 l0_2 f1 f2 f3 f4 = some rs → Ctv l yX2_drawPack wsX2_drawPack { frames := F, cells := 0, slots := 0, locals := Lc } D vwCl [(cA, .int)] [.ref q0, .int b1] (wdX2_1 cA q0 q1 q2 q3 q4 f0 l0_2 f1 f2 f3 f4) (wdX2_1 cA q0 q1 q2 q3 q4 f0 rs.1 rs.2.1 rs.2.2.1 rs.2.2.2.1 rs.2.2.2.2) 0 0) (v2 : Int32) (l0_2 : Int64) (f1 : Nat → Int32) (f2 : Nat → Int32) (f3 : Nat → Int32) (f4 : Nat → Int32) (h : bfX2_drawPack_52 N rp a1 f0  v2 l0_2 f1 f2 f3 f4 = some res) : At_ p l e (rmX2_drawPack F Lc) s m args below meth c D vwCl A 5 0 0 (Qv_ below args s D vwCl A (wdX2_1 cA q0 q1 q2 q3 q4 f0 res.1 res.2.1 res.2.2.1 res.2.2.2.1 res.2.2.2.2)) 52 [(0, .ref q0), (1, .int a1), (2, .int v2)] [] (wdX2_1 cA q0 q1 q2 q3 q4 f0 l0_2 f1 f2 f3 f4) := by
  unfold bfX2_drawPack_52 at h
  refine a_aload_n C0 dX2_drawPack_52 rfl 0 rfl ?_
  refine a_iload_n C0 dX2_drawPack_53 rfl 2 rfl ?_
  obtain ⟨f1_1, f2_2, h_3, h⟩ := bd2_e h
  refine a_callVv C0 (wdX2_1 cA q0 q1 q2 q3 q4 f0 l0_2 f1_1 f2_2 f3 f4) (As := [.int v2]) (rest := []) (ctX2_drawEnd l D cA q0 q1 q2 q3 q4 N v2 f0 l0_2 f1 f2 f3 f4 h_3) (cwV 1 C0.1.2.2.2.2 gX2_drawPack_X2_drawEnd rfl rfl rfl hdX2_drawEnd ⟨by dsimp only; omega, by dsimp only; omega⟩) [0, 1, 2, 3, 4] [] [0, 1, 2, 3, 4] rfl rfl rfl rfl (by decide) rfl rfl rfl rfl rfl rfl (Nat.le_of_ble_eq_true rfl) dX2_drawPack_54 ⟨Nat.zero_le _, Nat.zero_le _⟩ ?_
  obtain rfl := Option.some.inj h
  exact a_vret C0 dX2_drawPack_57 rfl
set_option maxHeartbeats 4000000 in
set_option maxRecDepth 100000 in
theorem bwX2_drawPack_22 {p : Program} {l : Launch} {e : Env} {s : State} {m : MethodId} {args : Array Value} {below : List Frame} {meth : Method} {c : Code} {D : va_G} {A : Nat → Prop} {cA : ClassId} {q0 q1 q2 q3 q4 : Nat} {res : Int64 × (Nat → Int32) × (Nat → Int32) × (Nat → Int32) × (Nat → Int32)} {F Lc : Nat} (C0 : cx p s m args meth c cX2_drawPack 5 RX2 wsX2_drawPack none D vwCl [(cA, .int)] A) (N : Nat) (rp : Int32 → (Nat → Int32) → Int64 → (Nat → Int32) → (Nat → Int32) → (Nat → Int32) → (Nat → Int32) → Option (Int64 × (Nat → Int32) × (Nat → Int32) × (Nat → Int32) × (Nat → Int32))) (a1 : Int32) (f0 : Nat → Int32) (hF : 4 ≤ F) (hL : 91 ≤ Lc) (hrp : ∀ (q0 q1 q2 q3 q4 : Nat) (b1 : Int32) (f0 : Nat → Int32) (l0_2 : Int64) (f1 : Nat → Int32) (f2 : Nat → Int32) (f3 : Nat → Int32) (f4 : Nat → Int32) {rs : Int64 × (Nat → Int32) × (Nat → Int32) × (Nat → Int32) × (Nat → Int32)}, rp b1 f0 l0_2 f1 f2 f3 f4 = some rs → Ctv l yX2_drawPack wsX2_drawPack { frames := F, cells := 0, slots := 0, locals := Lc } D vwCl [(cA, .int)] [.ref q0, .int b1] (wdX2_1 cA q0 q1 q2 q3 q4 f0 l0_2 f1 f2 f3 f4) (wdX2_1 cA q0 q1 q2 q3 q4 f0 rs.1 rs.2.1 rs.2.2.1 rs.2.2.2.1 rs.2.2.2.2) 0 0) : ∀ (n : Nat) (v2 : Int32) (v3 : Int32) (v4 : Int32) (l0_2 : Int64) (f1 : Nat → Int32) (f2 : Nat → Int32) (f3 : Nat → Int32) (f4 : Nat → Int32), bfX2_drawPack_22 N rp a1 f0  n v2 v3 v4 l0_2 f1 f2 f3 f4 = some res → At_ p l e (rmX2_drawPack F Lc) s m args below meth c D vwCl A 5 0 0 (Qv_ below args s D vwCl A (wdX2_1 cA q0 q1 q2 q3 q4 f0 res.1 res.2.1 res.2.2.1 res.2.2.2.1 res.2.2.2.2)) 22 [(0, .ref q0), (1, .int a1), (2, .int v2), (3, .int v3), (4, .int v4)] [] (wdX2_1 cA q0 q1 q2 q3 q4 f0 l0_2 f1 f2 f3 f4) := by
  intro n
  induction n with
  | zero => intro v2 v3 v4 l0_2 f1 f2 f3 f4 h; cases h
  | succ n hrc22 =>
    intro v2 v3 v4 l0_2 f1 f2 f3 f4 h
    replace h : bFX2_drawPack_22 N rp a1 f0  (bfX2_drawPack_22 N rp a1 f0  n) v2 v3 v4 l0_2 f1 f2 f3 f4 = some res := h
    generalize bfX2_drawPack_22 N rp a1 f0  n = rc22 at h hrc22
    unfold bFX2_drawPack_22 at h
    refine a_iload C0 dX2_drawPack_22 4 rfl ?_
    refine a_iload_n C0 dX2_drawPack_24 rfl 3 rfl ?_
    refine a_icmp_ge C0 52 dX2_drawPack_25 (by decide) (fun c_4 => ?_) (fun c_4 => ?_)
    · have h := it_ c_4 h
      refine a_lv [0, 1, 2] (lv' := [(0, .ref q0), (1, .int a1), (2, .int v2)]) rfl ?_
      exact bwX2_drawPack_52 C0 N rp a1 f0 hF hL hrp v2 l0_2 f1 f2 f3 f4 h
    · have h := ie_ c_4 h
      refine a_aload_n C0 dX2_drawPack_28 rfl 0 rfl ?_
      refine a_get C0 inX2_drawPack_X2 0 rfl rfl 0 (by decide) lkX2_drawPack_18 (fun _ h9 => h9) (.ref q1) rfl dX2_drawPack_29 ?_
      obtain ⟨r_5, h_6, h⟩ := bd1_e h
      refine a_callVi C0 (wdX2_1 cA q0 q1 q2 q3 q4 f0 l0_2 f1 f2 f3 f4) (As := []) (rest := []) (ctX5_count l D cA q1 q2 f1 h_6) (cwV 0 C0.1.2.2.2.2 gX2_drawPack_X5_count rfl rfl rfl hdX5_count ⟨by dsimp only; omega, by dsimp only; omega⟩) [1] [0, 2, 3, 4] [0, 4, 1, 2, 3] rfl rfl rfl rfl (by decide) rfl rfl rfl rfl rfl rfl (Nat.le_of_ble_eq_true rfl) dX2_drawPack_32 ⟨Nat.zero_le _, Nat.zero_le _⟩ ?_
      refine a_bipush C0 (100 : Int32) dX2_drawPack_35 (by decide) ?_
      refine a_icmp_ge C0 52 dX2_drawPack_37 (by decide) (fun c_7 => ?_) (fun c_7 => ?_)
      · have h := it_ c_7 h
        refine a_lv [0, 1, 2] (lv' := [(0, .ref q0), (1, .int a1), (2, .int v2)]) rfl ?_
        exact bwX2_drawPack_52 C0 N rp a1 f0 hF hL hrp v2 l0_2 f1 f2 f3 f4 h
      · have h := ie_ c_7 h
        refine a_aload_n C0 dX2_drawPack_40 rfl 0 rfl ?_
        refine a_iload_n C0 dX2_drawPack_41 rfl 2 rfl ?_
        refine a_iload_n C0 dX2_drawPack_42 rfl 1 rfl ?_
        obtain ⟨l0_2_8, f1_9, f2_10, f3_11, f4_12, h_13, h⟩ := bd5_e h
        refine a_callVv C0 (wdX2_1 cA q0 q1 q2 q3 q4 f0 l0_2_8 f1_9 f2_10 f3_11 f4_12) (As := [.int v2, .int a1]) (rest := []) (ctX2_drawItem l D cA q0 q1 q2 q3 q4 F Lc hF hL N rp hrp v2 a1 f0 l0_2 f1 f2 f3 f4 h_13) (cwV 2 C0.1.2.2.2.2 gX2_drawPack_X2_drawItem rfl rfl rfl hdX2_drawItem ⟨by dsimp only; omega, by dsimp only; omega⟩) [0, 1, 2, 3, 4] [] [0, 1, 2, 3, 4] rfl rfl rfl rfl (by decide) rfl rfl rfl rfl rfl rfl (Nat.le_of_ble_eq_true rfl) dX2_drawPack_43 ⟨Nat.zero_le _, Nat.zero_le _⟩ ?_
        obtain ⟨x_14, ex_14, h⟩ := lt_e h
        refine a_iinc C0 x_14 [(4, .int x_14), (0, .ref q0), (1, .int a1), (2, .int v2), (3, .int v3)] dX2_drawPack_46 4 rfl (by subst ex_14; rfl) (by decide) rfl ?_
        refine a_goto C0 22 dX2_drawPack_49 (by decide) ?_
        refine a_lv [1, 2, 3, 4, 0] (lv' := [(0, .ref q0), (1, .int a1), (2, .int v2), (3, .int v3), (4, .int x_14)]) rfl ?_
        exact hrc22 v2 v3 x_14 l0_2_8 f1_9 f2_10 f3_11 f4_12 h
set_option maxHeartbeats 4000000 in
set_option maxRecDepth 100000 in
theorem bwX2_drawPack {p : Program} {l : Launch} {e : Env} {s : State} {m : MethodId} {args : Array Value} {below : List Frame} {meth : Method} {c : Code} {D : va_G} {A : Nat → Prop} {cA : ClassId} {q0 q1 q2 q3 q4 : Nat} {res : Int64 × (Nat → Int32) × (Nat → Int32) × (Nat → Int32) × (Nat → Int32)} {F Lc : Nat} (C0 : cx p s m args meth c cX2_drawPack 5 RX2 wsX2_drawPack none D vwCl [(cA, .int)] A) (N : Nat) (rp : Int32 → (Nat → Int32) → Int64 → (Nat → Int32) → (Nat → Int32) → (Nat → Int32) → (Nat → Int32) → Option (Int64 × (Nat → Int32) × (Nat → Int32) × (Nat → Int32) × (Nat → Int32))) (a1 : Int32) (f0 : Nat → Int32) (l0_2 : Int64) (f1 : Nat → Int32) (f2 : Nat → Int32) (f3 : Nat → Int32) (f4 : Nat → Int32) (hF : 4 ≤ F) (hL : 91 ≤ Lc) (hrp : ∀ (q0 q1 q2 q3 q4 : Nat) (b1 : Int32) (f0 : Nat → Int32) (l0_2 : Int64) (f1 : Nat → Int32) (f2 : Nat → Int32) (f3 : Nat → Int32) (f4 : Nat → Int32) {rs : Int64 × (Nat → Int32) × (Nat → Int32) × (Nat → Int32) × (Nat → Int32)}, rp b1 f0 l0_2 f1 f2 f3 f4 = some rs → Ctv l yX2_drawPack wsX2_drawPack { frames := F, cells := 0, slots := 0, locals := Lc } D vwCl [(cA, .int)] [.ref q0, .int b1] (wdX2_1 cA q0 q1 q2 q3 q4 f0 l0_2 f1 f2 f3 f4) (wdX2_1 cA q0 q1 q2 q3 q4 f0 rs.1 rs.2.1 rs.2.2.1 rs.2.2.2.1 rs.2.2.2.2) 0 0) (h : pX2_drawPack N rp a1 f0 l0_2 f1 f2 f3 f4 = some res) : At_ p l e (rmX2_drawPack F Lc) s m args below meth c D vwCl A 5 0 0 (Qv_ below args s D vwCl A (wdX2_1 cA q0 q1 q2 q3 q4 f0 res.1 res.2.1 res.2.2.1 res.2.2.2.1 res.2.2.2.2)) 0 [(0, .ref q0), (1, .int a1)] [] (wdX2_1 cA q0 q1 q2 q3 q4 f0 l0_2 f1 f2 f3 f4) := by
  unfold pX2_drawPack at h
  refine a_aload_n C0 dX2_drawPack_0 rfl 0 rfl ?_
  refine a_get C0 inX2_drawPack_X2 0 rfl rfl 1 (by decide) lkX2_drawPack_12 (fun _ h9 => h9) (.ref q3) rfl dX2_drawPack_1 ?_
  obtain ⟨r_15, h_16, h⟩ := bd1_e h
  refine a_callVi C0 (wdX2_1 cA q0 q1 q2 q3 q4 f0 l0_2 f1 f2 f3 f4) (As := []) (rest := []) (ctX4_top l D cA q3 q4 f3 h_16) (cwV 0 C0.1.2.2.2.2 gX2_drawPack_X4_top rfl rfl rfl hdX4_top ⟨by dsimp only; omega, by dsimp only; omega⟩) [3] [0, 1, 2, 4] [0, 1, 2, 4, 3] rfl rfl rfl rfl (by decide) rfl rfl rfl rfl rfl rfl (Nat.le_of_ble_eq_true rfl) dX2_drawPack_4 ⟨Nat.zero_le _, Nat.zero_le _⟩ ?_
  refine a_istore_n C0 [(2, .int r_15), (0, .ref q0), (1, .int a1)] dX2_drawPack_7 rfl (by decide) rfl ?_
  refine a_iconst C0 (1 : Int32) dX2_drawPack_8 (by decide) ?_
  refine a_aload_n C0 dX2_drawPack_9 rfl 1 rfl ?_
  refine a_aload_n C0 dX2_drawPack_10 rfl 1 rfl ?_
  refine a_get C0 inX2_drawPack_X2 0 rfl rfl 4 (by decide) lkX2_drawPack_39 (fun _ h9 => h9) (.int (f0 4)) rfl dX2_drawPack_11 ?_
  obtain ⟨r_17, l0_2_18, h_19, h⟩ := bd2_e h
  refine a_callVi C0 (wdX2_1 cA q0 q1 q2 q3 q4 f0 l0_2_18 f1 f2 f3 f4) (As := [.int (f0 4)]) (rest := [.int (1 : Int32)]) (ctX2_pick l D cA q0 q1 q3 (f0 4) f0 l0_2 h_19) (cwV 1 C0.1.2.2.2.2 gX2_drawPack_X2_pick rfl rfl rfl hdX2_pick ⟨by dsimp only; omega, by dsimp only; omega⟩) [0] [1, 2, 3, 4] [4, 0, 1, 2, 3] rfl rfl rfl rfl (by decide) rfl rfl rfl rfl rfl rfl (Nat.le_of_ble_eq_true rfl) dX2_drawPack_14 ⟨Nat.zero_le _, Nat.zero_le _⟩ ?_
  refine a_iadd C0 dX2_drawPack_17 ?_
  obtain ⟨x_20, ex_20, h⟩ := lt_e h
  refine a_topi ex_20 ?_
  refine a_istore_n C0 [(3, .int x_20), (2, .int r_15), (0, .ref q0), (1, .int a1)] dX2_drawPack_18 rfl (by decide) rfl ?_
  refine a_iconst C0 (0 : Int32) dX2_drawPack_19 (by decide) ?_
  refine a_istore C0 [(4, .int (0 : Int32)), (3, .int x_20), (2, .int r_15), (0, .ref q0), (1, .int a1)] dX2_drawPack_20 (by decide) rfl ?_
  refine a_lv [3, 4, 2, 1, 0] (lv' := [(0, .ref q0), (1, .int a1), (2, .int r_15), (3, .int x_20), (4, .int (0 : Int32))]) rfl ?_
  exact bwX2_drawPack_22 C0 N rp a1 f0 hF hL hrp N r_15 x_20 (0 : Int32) l0_2_18 f1 f2 f3 f4 h
set_option maxRecDepth 100000 in
theorem ctX2_drawPack (l : Launch) (D : va_G) (cA : ClassId) (q0 q1 q2 q3 q4 : Nat) (F Lc : Nat) (hF : 4 ≤ F) (hL : 91 ≤ Lc) (N : Nat) (rp : Int32 → (Nat → Int32) → Int64 → (Nat → Int32) → (Nat → Int32) → (Nat → Int32) → (Nat → Int32) → Option (Int64 × (Nat → Int32) × (Nat → Int32) × (Nat → Int32) × (Nat → Int32))) (hrp : ∀ (q0 q1 q2 q3 q4 : Nat) (b1 : Int32) (f0 : Nat → Int32) (l0_2 : Int64) (f1 : Nat → Int32) (f2 : Nat → Int32) (f3 : Nat → Int32) (f4 : Nat → Int32) {rs : Int64 × (Nat → Int32) × (Nat → Int32) × (Nat → Int32) × (Nat → Int32)}, rp b1 f0 l0_2 f1 f2 f3 f4 = some rs → Ctv l yX2_drawPack wsX2_drawPack { frames := F, cells := 0, slots := 0, locals := Lc } D vwCl [(cA, .int)] [.ref q0, .int b1] (wdX2_1 cA q0 q1 q2 q3 q4 f0 l0_2 f1 f2 f3 f4) (wdX2_1 cA q0 q1 q2 q3 q4 f0 rs.1 rs.2.1 rs.2.2.1 rs.2.2.2.1 rs.2.2.2.2) 0 0) (a1 : Int32) (f0 : Nat → Int32) (l0_2 : Int64) (f1 : Nat → Int32) (f2 : Nat → Int32) (f3 : Nat → Int32) (f4 : Nat → Int32) {res : Int64 × (Nat → Int32) × (Nat → Int32) × (Nat → Int32) × (Nat → Int32)} (h : pX2_drawPack N rp a1 f0 l0_2 f1 f2 f3 f4 = some res) : Ctv l yX2_drawPack wsX2_drawPack (rmX2_drawPack F Lc) D vwCl [(cA, .int)] [.ref q0, .int a1] (wdX2_1 cA q0 q1 q2 q3 q4 f0 l0_2 f1 f2 f3 f4) (wdX2_1 cA q0 q1 q2 q3 q4 f0 res.1 res.2.1 res.2.2.1 res.2.2.2.1 res.2.2.2.2) 0 0 :=
  ct_n (S := Unit) (maxL := 5) (cc := cX2_drawPack) (by decide) rfl (Nat.le_of_ble_eq_true rfl) (fun p e s m below meth c _ C0 => bwX2_drawPack C0 N rp a1 f0 l0_2 f1 f2 f3 f4 hF hL hrp h)
def qX2_drawPack (N : Nat) : Nat → Int32 → (Nat → Int32) → Int64 → (Nat → Int32) → (Nat → Int32) → (Nat → Int32) → (Nat → Int32) → Option (Int64 × (Nat → Int32) × (Nat → Int32) × (Nat → Int32) × (Nat → Int32))
  | 0 => fun _ _ _ _ _ _ _ => none
  | d + 1 => pX2_drawPack N (qX2_drawPack N d)
abbrev rqX2_drawPack (d : Nat) : Room := { frames := 4 + 3 * d, cells := 0, slots := 0, locals := 91 + 70 * d }
set_option maxHeartbeats 4000000 in
theorem kqX2_drawPack (l : Launch) (D : va_G) (cA : ClassId) (N : Nat) : ∀ (d : Nat), ∀ (q0 q1 q2 q3 q4 : Nat) (a1 : Int32) (f0 : Nat → Int32) (l0_2 : Int64) (f1 : Nat → Int32) (f2 : Nat → Int32) (f3 : Nat → Int32) (f4 : Nat → Int32) {res : Int64 × (Nat → Int32) × (Nat → Int32) × (Nat → Int32) × (Nat → Int32)}, qX2_drawPack N d a1 f0 l0_2 f1 f2 f3 f4 = some res → Ctv l yX2_drawPack wsX2_drawPack (rqX2_drawPack d) D vwCl [(cA, .int)] [.ref q0, .int a1] (wdX2_1 cA q0 q1 q2 q3 q4 f0 l0_2 f1 f2 f3 f4) (wdX2_1 cA q0 q1 q2 q3 q4 f0 res.1 res.2.1 res.2.2.1 res.2.2.2.1 res.2.2.2.2) 0 0 := by
  intro d
  induction d with
  | zero => intro q0 q1 q2 q3 q4 a1 f0 l0_2 f1 f2 f3 f4 res h; cases h
  | succ d ih =>
    intro q0 q1 q2 q3 q4 a1 f0 l0_2 f1 f2 f3 f4 res h
    replace h : pX2_drawPack N (qX2_drawPack N d) a1 f0 l0_2 f1 f2 f3 f4 = some res := h
    have hm := ctX2_drawPack l D cA q0 q1 q2 q3 q4 (4 + 3 * d) (91 + 70 * d) (by omega) (by omega) N (qX2_drawPack N d) (fun q0 q1 q2 q3 q4 a1 f0 l0_2 f1 f2 f3 f4 rs hh => ih q0 q1 q2 q3 q4 a1 f0 l0_2 f1 f2 f3 f4 hh) a1 f0 l0_2 f1 f2 f3 f4 h
    have er : rmX2_drawPack (4 + 3 * d) (91 + 70 * d) = rqX2_drawPack (d + 1) := by
      simp only [rmX2_drawPack, rqX2_drawPack, Nat.mul_succ, Nat.mul_add, Nat.add_assoc]
    rw [← er]
    exact hm
theorem kkX2_drawPack (l : Launch) (D : va_G) (cA : ClassId) (q0 q1 q2 q3 q4 : Nat) (N d : Nat) (a1 : Int32) (f0 : Nat → Int32) (l0_2 : Int64) (f1 : Nat → Int32) (f2 : Nat → Int32) (f3 : Nat → Int32) (f4 : Nat → Int32) {res : Int64 × (Nat → Int32) × (Nat → Int32) × (Nat → Int32) × (Nat → Int32)} (h : qX2_drawPack N d a1 f0 l0_2 f1 f2 f3 f4 = some res) : Ctv l yX2_drawPack wsX2_drawPack (rqX2_drawPack d) D vwCl [(cA, .int)] [.ref q0, .int a1] (wdX2_1 cA q0 q1 q2 q3 q4 f0 l0_2 f1 f2 f3 f4) (wdX2_1 cA q0 q1 q2 q3 q4 f0 res.1 res.2.1 res.2.2.1 res.2.2.2.1 res.2.2.2.2) 0 0 := kqX2_drawPack l D cA N d q0 q1 q2 q3 q4 a1 f0 l0_2 f1 f2 f3 f4 h
/-! PackDrawer$Drawer.drawStream -/
theorem hdX5_keep : yX5_keep.cls = RX5 ∧ yX5_keep.cls ≠ "java/lang/invoke/MethodHandle" ∧ yX5_keep.cls ≠ "java/lang/invoke/VarHandle" ∧ (parseMethodDescriptor yX5_keep.desc).map (fun d => d.parameters.length) = some 1 := by decide +kernel
abbrev rmX2_drawStream : Room := { frames := 29, cells := 0, slots := 0, locals := 675 }
theorem lkX2_drawStream_18 : Cond.fieldLink RX2 18 RX2 (TX2 0).2.1 (TX2 0).2.2.1 ∈ wsX2_drawStream := by decide +kernel
theorem inX2_drawStream_X2 : ∀ w ∈ u_ws RX2 TX2 5, w ∈ wsX2_drawStream := by decide +kernel
theorem lkX2_drawStream_12 : Cond.fieldLink RX2 12 RX2 (TX2 1).2.1 (TX2 1).2.2.1 ∈ wsX2_drawStream := by decide +kernel
theorem lkX2_drawStream_31 : Cond.fieldLink RX2 31 RX2 (TX2 2).2.1 (TX2 2).2.2.1 ∈ wsX2_drawStream := by decide +kernel
theorem lkX2_drawStream_35 : Cond.fieldLink RX2 35 RX2 (TX2 3).2.1 (TX2 3).2.2.1 ∈ wsX2_drawStream := by decide +kernel
theorem lkX2_drawStream_39 : Cond.fieldLink RX2 39 RX2 (TX2 4).2.1 (TX2 4).2.2.1 ∈ wsX2_drawStream := by decide +kernel
def pX2_drawStream (N : Nat) (a1 : Int64) (a3 : Int32) (a4 : Int32) (f0 : Nat → Int32) (l0_2 : Int64) (f1 : Nat → Int32) (f2 : Nat → Int32) (f3 : Nat → Int32) (f4 : Nat → Int32) : Option ((Nat → Int32) × Int64 × (Nat → Int32) × (Nat → Int32) × (Nat → Int32) × (Nat → Int32)) := bd1 (pX5_keep (0 : Int32) f1) (fun f1_1 => bd1 (pX4_backTo (0 : Int32) f3) (fun f3_3 => lt_ (upd f0 3 a3) (fun f0_5 => lt_ (upd f0_5 4 a4) (fun f0_6 => bd5 (qX2_drawPack N 8 (1 : Int32) f0_6 a1 f1_1 f2 f3_3 f4) (fun l0_2_7 f1_8 f2_9 f3_10 f4_11 => some (f0_6, l0_2_7, f1_8, f2_9, f3_10, f4_11))))))
set_option maxHeartbeats 4000000 in
set_option maxRecDepth 100000 in
theorem bwX2_drawStream {p : Program} {l : Launch} {e : Env} {s : State} {m : MethodId} {args : Array Value} {below : List Frame} {meth : Method} {c : Code} {D : va_G} {A : Nat → Prop} {cA : ClassId} {q0 q1 q2 q3 q4 : Nat} {res : (Nat → Int32) × Int64 × (Nat → Int32) × (Nat → Int32) × (Nat → Int32) × (Nat → Int32)} (C0 : cx p s m args meth c cX2_drawStream 5 RX2 wsX2_drawStream none D vwCl [(cA, .int)] A) (N : Nat) (a1 : Int64) (a3 : Int32) (a4 : Int32) (f0 : Nat → Int32) (l0_2 : Int64) (f1 : Nat → Int32) (f2 : Nat → Int32) (f3 : Nat → Int32) (f4 : Nat → Int32) (h : pX2_drawStream N a1 a3 a4 f0 l0_2 f1 f2 f3 f4 = some res) : At_ p l e (rmX2_drawStream) s m args below meth c D vwCl A 5 0 0 (Qv_ below args s D vwCl A (wdX2_1 cA q0 q1 q2 q3 q4 res.1 res.2.1 res.2.2.1 res.2.2.2.1 res.2.2.2.2.1 res.2.2.2.2.2)) 0 [(0, .ref q0), (1, .long a1), (3, .int a3), (4, .int a4)] [] (wdX2_1 cA q0 q1 q2 q3 q4 f0 l0_2 f1 f2 f3 f4) := by
  unfold pX2_drawStream at h
  refine a_aload_n C0 dX2_drawStream_0 rfl 0 rfl ?_
  refine a_get C0 inX2_drawStream_X2 0 rfl rfl 0 (by decide) lkX2_drawStream_18 (fun _ h9 => h9) (.ref q1) rfl dX2_drawStream_1 ?_
  refine a_iconst C0 (0 : Int32) dX2_drawStream_4 (by decide) ?_
  obtain ⟨f1_1, h_2, h⟩ := bd1_e h
  refine a_callVv C0 (wdX2_1 cA q0 q1 q2 q3 q4 f0 l0_2 f1_1 f2 f3 f4) (As := [.int (0 : Int32)]) (rest := []) (ctX5_keep l D cA q1 q2 (0 : Int32) f1 h_2) (cwV 1 C0.1.2.2.2.2 gX2_drawStream_X5_keep rfl rfl rfl hdX5_keep ⟨Nat.le_of_ble_eq_true rfl, Nat.le_of_ble_eq_true rfl⟩) [1] [0, 2, 3, 4] [0, 4, 1, 2, 3] rfl rfl rfl rfl (by decide) rfl rfl rfl rfl rfl rfl (Nat.le_of_ble_eq_true rfl) dX2_drawStream_5 ⟨Nat.zero_le _, Nat.zero_le _⟩ ?_
  refine a_aload_n C0 dX2_drawStream_8 rfl 0 rfl ?_
  refine a_get C0 inX2_drawStream_X2 0 rfl rfl 1 (by decide) lkX2_drawStream_12 (fun _ h9 => h9) (.ref q3) rfl dX2_drawStream_9 ?_
  refine a_iconst C0 (0 : Int32) dX2_drawStream_12 (by decide) ?_
  obtain ⟨f3_3, h_4, h⟩ := bd1_e h
  refine a_callVv C0 (wdX2_1 cA q0 q1 q2 q3 q4 f0 l0_2 f1_1 f2 f3_3 f4) (As := [.int (0 : Int32)]) (rest := []) (ctX4_backTo l D cA q3 q4 (0 : Int32) f3 h_4) (cwV 1 C0.1.2.2.2.2 gX2_drawStream_X4_backTo rfl rfl rfl hdX4_backTo ⟨Nat.le_of_ble_eq_true rfl, Nat.le_of_ble_eq_true rfl⟩) [3] [0, 1, 2, 4] [0, 1, 2, 4, 3] rfl rfl rfl rfl (by decide) rfl rfl rfl rfl rfl rfl (Nat.le_of_ble_eq_true rfl) dX2_drawStream_13 ⟨Nat.zero_le _, Nat.zero_le _⟩ ?_
  refine a_aload_n C0 dX2_drawStream_16 rfl 0 rfl ?_
  refine a_lload_n C0 dX2_drawStream_17 rfl 1 rfl ?_
  refine a_put C0 inX2_drawStream_X2 tyX2 tyX2_ok nmX2 0 rfl rfl 2 (by decide) lkX2_drawStream_31 (fun _ h9 => h9) rfl (ty := .long) (v := .long a1) (by decide +kernel) rfl rfl (Nat.le_of_ble_eq_true rfl) dX2_drawStream_18 (wdX2_1 cA q0 q1 q2 q3 q4 f0 a1 f1_1 f2 f3_3 f4) rfl ?_
  refine a_aload_n C0 dX2_drawStream_21 rfl 0 rfl ?_
  refine a_iload_n C0 dX2_drawStream_22 rfl 2 rfl ?_
  obtain ⟨f0_5, ef0_5, h⟩ := lt_e h
  refine a_put C0 inX2_drawStream_X2 tyX2 tyX2_ok nmX2 0 rfl rfl 3 (by decide) lkX2_drawStream_35 (fun _ h9 => h9) rfl (ty := .int) (v := .int a3) (by decide +kernel) rfl rfl (Nat.le_of_ble_eq_true rfl) dX2_drawStream_23 (wdX2_1 cA q0 q1 q2 q3 q4 f0_5 a1 f1_1 f2 f3_3 f4) (by subst ef0_5; rfl) ?_
  refine a_aload_n C0 dX2_drawStream_26 rfl 0 rfl ?_
  refine a_iload C0 dX2_drawStream_27 3 rfl ?_
  obtain ⟨f0_6, ef0_6, h⟩ := lt_e h
  refine a_put C0 inX2_drawStream_X2 tyX2 tyX2_ok nmX2 0 rfl rfl 4 (by decide) lkX2_drawStream_39 (fun _ h9 => h9) rfl (ty := .int) (v := .int a4) (by decide +kernel) rfl rfl (Nat.le_of_ble_eq_true rfl) dX2_drawStream_29 (wdX2_1 cA q0 q1 q2 q3 q4 f0_6 a1 f1_1 f2 f3_3 f4) (by subst ef0_6; rfl) ?_
  refine a_aload_n C0 dX2_drawStream_32 rfl 0 rfl ?_
  refine a_iconst C0 (1 : Int32) dX2_drawStream_33 (by decide) ?_
  obtain ⟨l0_2_7, f1_8, f2_9, f3_10, f4_11, h_12, h⟩ := bd5_e h
  refine a_callVv C0 (wdX2_1 cA q0 q1 q2 q3 q4 f0_6 l0_2_7 f1_8 f2_9 f3_10 f4_11) (As := [.int (1 : Int32)]) (rest := []) (kkX2_drawPack l D cA q0 q1 q2 q3 q4 N 8 (1 : Int32) f0_6 a1 f1_1 f2 f3_3 f4 h_12) (cwV 1 C0.1.2.2.2.2 gX2_drawStream_X2_drawPack rfl rfl rfl hdX2_drawPack ⟨Nat.le_of_ble_eq_true rfl, Nat.le_of_ble_eq_true rfl⟩) [0, 1, 2, 3, 4] [] [0, 1, 2, 3, 4] rfl rfl rfl rfl (by decide) rfl rfl rfl rfl rfl rfl (Nat.le_of_ble_eq_true rfl) dX2_drawStream_34 ⟨Nat.zero_le _, Nat.zero_le _⟩ ?_
  obtain rfl := Option.some.inj h
  exact a_vret C0 dX2_drawStream_37 rfl
set_option maxRecDepth 100000 in
theorem ctX2_drawStream (l : Launch) (D : va_G) (cA : ClassId) (q0 q1 q2 q3 q4 : Nat) (N : Nat) (a1 : Int64) (a3 : Int32) (a4 : Int32) (f0 : Nat → Int32) (l0_2 : Int64) (f1 : Nat → Int32) (f2 : Nat → Int32) (f3 : Nat → Int32) (f4 : Nat → Int32) {res : (Nat → Int32) × Int64 × (Nat → Int32) × (Nat → Int32) × (Nat → Int32) × (Nat → Int32)} (h : pX2_drawStream N a1 a3 a4 f0 l0_2 f1 f2 f3 f4 = some res) : Ctv l yX2_drawStream wsX2_drawStream (rmX2_drawStream) D vwCl [(cA, .int)] [.ref q0, .long a1, .int a3, .int a4] (wdX2_1 cA q0 q1 q2 q3 q4 f0 l0_2 f1 f2 f3 f4) (wdX2_1 cA q0 q1 q2 q3 q4 res.1 res.2.1 res.2.2.1 res.2.2.2.1 res.2.2.2.2.1 res.2.2.2.2.2) 0 0 :=
  ct_n (S := Unit) (maxL := 5) (cc := cX2_drawStream) (by decide) rfl (Nat.le_of_ble_eq_true rfl) (fun p e s m below meth c _ C0 => bwX2_drawStream C0 N a1 a3 a4 f0 l0_2 f1 f2 f3 f4 h)
