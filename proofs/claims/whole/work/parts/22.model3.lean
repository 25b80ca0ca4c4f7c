/-! PackDrawerModel.drawBytes -/
abbrev wdX7_13 (cA : ClassId) (q0 q1 q2 q3 q4 q5 q6 q7 q8 q9 q10 q11 q12 q13 : Nat) (f0 : Nat → Int32) (l0_31 : Int64) (l0_32 : Int64) (f1 : Nat → Int32) (f2 : Nat → Int32) (f3 : Nat → Int32) (f8 : Nat → Int32) : va_W := [(q0, .inr (7, [.ref q1, .int (f0 1), .int (f0 2), .ref q2, .ref q3, .ref q4, .ref q5, .ref q6, .ref q7, .ref q8, .int (f0 10), .ref q9, .ref q10, .ref q11, .int (f0 14), .int (f0 15), .int (f0 16), .int (f0 17), .int (f0 18), .int (f0 19), .int (f0 20), .int (f0 21), .int (f0 22), .int (f0 23), .int (f0 24), .int (f0 25), .int (f0 26), .int (f0 27), .int (f0 28), .ref q12, .ref q13, .long l0_31, .long l0_32])), (q1, .inl (cA, 160, .inl f1)), (q2, .inl (cA, 6, .inl f2)), (q3, .inl (cA, 6, .inl f3)), (q8, .inl (cA, 2000, .inl f8))]
theorem hdX7_gives : yX7_gives.cls = RX7 ∧ yX7_gives.cls ≠ "java/lang/invoke/MethodHandle" ∧ yX7_gives.cls ≠ "java/lang/invoke/VarHandle" ∧ (parseMethodDescriptor yX7_gives.desc).map (fun d => d.parameters.length) = some 1 := by decide +kernel
theorem hdX7_pick : yX7_pick.cls = RX7 ∧ yX7_pick.cls ≠ "java/lang/invoke/MethodHandle" ∧ yX7_pick.cls ≠ "java/lang/invoke/VarHandle" ∧ (parseMethodDescriptor yX7_pick.desc).map (fun d => d.parameters.length) = some 1 := by decide +kernel
abbrev rmX7_drawBytes : Room := { frames := 1, cells := 0, slots := 0, locals := 23 }
def bfX7_drawBytes_57 (N : Nat) (a1 : Int32) (a2 : Int32) (l0_31 : Int64) (f2 : Nat → Int32) (rc20 : Int32 → Int32 → (Nat → Int32) → Int64 → (Nat → Int32) → (Nat → Int32) → (Nat → Int32) → Option ((Nat → Int32) × Int64 × (Nat → Int32) × (Nat → Int32) × (Nat → Int32))) (v3 : Int32) (v4 : Int32) (s0 : Int32) (f0 : Nat → Int32) (l0_32 : Int64) (f1 : Nat → Int32) (f3 : Nat → Int32) (f8 : Nat → Int32) : Option ((Nat → Int32) × Int64 × (Nat → Int32) × (Nat → Int32) × (Nat → Int32)) := bd2 (pX7_lay s0 f0 l0_31 l0_32 f1) (fun f0_1 f1_2 => bd2 (pX7_gives s0 f0_1 l0_31 l0_32 f2 f3 f8) (fun f3_4 f8_5 => lt_ ((v4 + (1 : Int32))) (fun x_7 => rc20 v3 x_7 f0_1 l0_32 f1_2 f3_4 f8_5)))
def bFX7_drawBytes_20 (N : Nat) (a1 : Int32) (a2 : Int32) (l0_31 : Int64) (f2 : Nat → Int32) (rc20 : Int32 → Int32 → (Nat → Int32) → Int64 → (Nat → Int32) → (Nat → Int32) → (Nat → Int32) → Option ((Nat → Int32) × Int64 × (Nat → Int32) × (Nat → Int32) × (Nat → Int32))) (v3 : Int32) (v4 : Int32) (f0 : Nat → Int32) (l0_32 : Int64) (f1 : Nat → Int32) (f3 : Nat → Int32) (f8 : Nat → Int32) : Option ((Nat → Int32) × Int64 × (Nat → Int32) × (Nat → Int32) × (Nat → Int32)) := if a1 ≤ v4 then some (f0, l0_32, f1, f3, f8) else if a2 = 0 then bd2 (pX7_pick (256 : Int32) f0 l0_31 l0_32) (fun r_14 l0_32_15 => bfX7_drawBytes_57 N a1 a2 l0_31 f2 rc20 v3 v4 r_14 f0 l0_32_15 f1 f3 f8) else if a2 = (1 : Int32) then bd2 (pX7_pick (3 : Int32) f0 l0_31 l0_32) (fun r_11 l0_32_12 => bfX7_drawBytes_57 N a1 a2 l0_31 f2 rc20 v3 v4 ((97 : Int32) + r_11) f0 l0_32_12 f1 f3 f8) else bfX7_drawBytes_57 N a1 a2 l0_31 f2 rc20 v3 v4 v3 f0 l0_32 f1 f3 f8
def bfX7_drawBytes_20 (N : Nat) (a1 : Int32) (a2 : Int32) (l0_31 : Int64) (f2 : Nat → Int32) : Nat → Int32 → Int32 → (Nat → Int32) → Int64 → (Nat → Int32) → (Nat → Int32) → (Nat → Int32) → Option ((Nat → Int32) × Int64 × (Nat → Int32) × (Nat → Int32) × (Nat → Int32))
  | 0 => fun _ _ _ _ _ _ _ => none
  | n + 1 => bFX7_drawBytes_20 N a1 a2 l0_31 f2  (bfX7_drawBytes_20 N a1 a2 l0_31 f2  n)
def bfX7_drawBytes_16 (N : Nat) (a1 : Int32) (a2 : Int32) (l0_31 : Int64) (f2 : Nat → Int32) (s0 : Int32) (f0 : Nat → Int32) (l0_32 : Int64) (f1 : Nat → Int32) (f3 : Nat → Int32) (f8 : Nat → Int32) : Option ((Nat → Int32) × Int64 × (Nat → Int32) × (Nat → Int32) × (Nat → Int32)) := bfX7_drawBytes_20 N a1 a2 l0_31 f2 N s0 (0 : Int32) f0 l0_32 f1 f3 f8
def pX7_drawBytes (N : Nat) (a1 : Int32) (a2 : Int32) (f0 : Nat → Int32) (l0_31 : Int64) (l0_32 : Int64) (f1 : Nat → Int32) (f2 : Nat → Int32) (f3 : Nat → Int32) (f8 : Nat → Int32) : Option ((Nat → Int32) × Int64 × (Nat → Int32) × (Nat → Int32) × (Nat → Int32)) := if a2 = (2 : Int32) then bd2 (pX7_pick (256 : Int32) f0 l0_31 l0_32) (fun r_18 l0_32_19 => bfX7_drawBytes_16 N a1 a2 l0_31 f2 r_18 f0 l0_32_19 f1 f3 f8) else bfX7_drawBytes_16 N a1 a2 l0_31 f2 (0 : Int32) f0 l0_32 f1 f3 f8
set_option maxHeartbeats 4000000 in
set_option maxRecDepth 100000 in
theorem bwX7_drawBytes_57 {p : Program} {l : Launch} {e : Env} {s : State} {m : MethodId} {args : Array Value} {below : List Frame} {meth : Method} {c : Code} {D : va_G} {A : Nat → Prop} {cA : ClassId} {q0 q1 q2 q3 q4 q5 q6 q7 q8 q9 q10 q11 q12 q13 : Nat} {res : (Nat → Int32) × Int64 × (Nat → Int32) × (Nat → Int32) × (Nat → Int32)} (C0 : cx p s m args meth c cX7_drawBytes 6 RX7 wsX7_drawBytes none D vwCl [(cA, .int)] A) (N : Nat) (a1 : Int32) (a2 : Int32) (l0_31 : Int64) (f2 : Nat → Int32) (rc20 : Int32 → Int32 → (Nat → Int32) → Int64 → (Nat → Int32) → (Nat → Int32) → (Nat → Int32) → Option ((Nat → Int32) × Int64 × (Nat → Int32) × (Nat → Int32) × (Nat → Int32))) (hrc20 : ∀ (v3 : Int32) (v4 : Int32) (f0 : Nat → Int32) (l0_32 : Int64) (f1 : Nat → Int32) (f3 : Nat → Int32) (f8 : Nat → Int32), rc20 v3 v4 f0 l0_32 f1 f3 f8 = some res → At_ p l e (rmX7_drawBytes) s m args below meth c D vwCl A 6 0 0 (Qv_ below args s D vwCl A (wdX7_13 cA q0 q1 q2 q3 q4 q5 q6 q7 q8 q9 q10 q11 q12 q13 res.1 l0_31 res.2.1 res.2.2.1 f2 res.2.2.2.1 res.2.2.2.2)) 20 [(0, .ref q0), (1, .int a1), (2, .int a2), (3, .int v3), (4, .int v4)] [] (wdX7_13 cA q0 q1 q2 q3 q4 q5 q6 q7 q8 q9 q10 q11 q12 q13 f0 l0_31 l0_32 f1 f2 f3 f8)) (v3 : Int32) (v4 : Int32) (s0 : Int32) (f0 : Nat → Int32) (l0_32 : Int64) (f1 : Nat → Int32) (f3 : Nat → Int32) (f8 : Nat → Int32) (h : bfX7_drawBytes_57 N a1 a2 l0_31 f2 rc20 v3 v4 s0 f0 l0_32 f1 f3 f8 = some res) : At_ p l e (rmX7_drawBytes) s m args below meth c D vwCl A 6 0 0 (Qv_ below args s D vwCl A (wdX7_13 cA q0 q1 q2 q3 q4 q5 q6 q7 q8 q9 q10 q11 q12 q13 res.1 l0_31 res.2.1 res.2.2.1 f2 res.2.2.2.1 res.2.2.2.2)) 57 [(0, .ref q0), (1, .int a1), (2, .int a2), (3, .int v3), (4, .int v4)] [.int s0] (wdX7_13 cA q0 q1 q2 q3 q4 q5 q6 q7 q8 q9 q10 q11 q12 q13 f0 l0_31 l0_32 f1 f2 f3 f8) := by
  unfold bfX7_drawBytes_57 at h
  refine a_istore C0 [(5, .int s0), (0, .ref q0), (1, .int a1), (2, .int a2), (3, .int v3), (4, .int v4)] dX7_drawBytes_57 (by decide) rfl ?_
  refine a_aload_n C0 dX7_drawBytes_59 rfl 1 rfl ?_
  refine a_iload C0 dX7_drawBytes_60 0 rfl ?_
  obtain ⟨f0_1, f1_2, h_3, h⟩ := bd2_e h
  refine a_callVv C0 (wdX7_13 cA q0 q1 q2 q3 q4 q5 q6 q7 q8 q9 q10 q11 q12 q13 f0_1 l0_31 l0_32 f1_2 f2 f3 f8) (As := [.int s0]) (rest := []) (ctX7_lay l D cA q0 q1 q2 q3 q4 q5 q6 q7 q8 q9 q10 q11 q12 q13 s0 f0 l0_31 l0_32 f1 h_3) (cwV 1 C0.1.2.2.2.2 gX7_drawBytes_X7_lay rfl rfl rfl hdX7_lay ⟨Nat.le_of_ble_eq_true rfl, Nat.le_of_ble_eq_true rfl⟩) [0, 1] [2, 3, 4] [3, 4, 0, 1, 2] rfl rfl rfl rfl (by decide) rfl rfl rfl rfl rfl rfl (Nat.le_of_ble_eq_true rfl) dX7_drawBytes_62 ⟨Nat.zero_le _, Nat.zero_le _⟩ ?_
  refine a_aload_n C0 dX7_drawBytes_65 rfl 1 rfl ?_
  refine a_iload C0 dX7_drawBytes_66 0 rfl ?_
  obtain ⟨f3_4, f8_5, h_6, h⟩ := bd2_e h
  refine a_callVv C0 (wdX7_13 cA q0 q1 q2 q3 q4 q5 q6 q7 q8 q9 q10 q11 q12 q13 f0_1 l0_31 l0_32 f1_2 f2 f3_4 f8_5) (As := [.int s0]) (rest := []) (ctX7_gives l D cA q0 q1 q2 q3 q4 q5 q6 q7 q8 q9 q10 q11 q12 q13 s0 f0_1 l0_31 l0_32 f2 f3 f8 h_6) (cwV 1 C0.1.2.2.2.2 gX7_drawBytes_X7_gives rfl rfl rfl hdX7_gives ⟨Nat.le_of_ble_eq_true rfl, Nat.le_of_ble_eq_true rfl⟩) [0, 2, 3, 4] [1] [1, 0, 2, 3, 4] rfl rfl rfl rfl (by decide) rfl rfl rfl rfl rfl rfl (Nat.le_of_ble_eq_true rfl) dX7_drawBytes_68 ⟨Nat.zero_le _, Nat.zero_le _⟩ ?_
  obtain ⟨x_7, ex_7, h⟩ := lt_e h
  refine a_iinc C0 x_7 [(4, .int x_7), (5, .int s0), (0, .ref q0), (1, .int a1), (2, .int a2), (3, .int v3)] dX7_drawBytes_71 5 rfl (by subst ex_7; rfl) (by decide) rfl ?_
  refine a_goto C0 20 dX7_drawBytes_74 (by decide) ?_
  refine a_lv [2, 3, 4, 5, 0] (lv' := [(0, .ref q0), (1, .int a1), (2, .int a2), (3, .int v3), (4, .int x_7)]) rfl ?_
  exact hrc20 v3 x_7 f0_1 l0_32 f1_2 f3_4 f8_5 h
set_option maxHeartbeats 4000000 in
set_option maxRecDepth 100000 in
theorem bwX7_drawBytes_20 {p : Program} {l : Launch} {e : Env} {s : State} {m : MethodId} {args : Array Value} {below : List Frame} {meth : Method} {c : Code} {D : va_G} {A : Nat → Prop} {cA : ClassId} {q0 q1 q2 q3 q4 q5 q6 q7 q8 q9 q10 q11 q12 q13 : Nat} {res : (Nat → Int32) × Int64 × (Nat → Int32) × (Nat → Int32) × (Nat → Int32)} (C0 : cx p s m args meth c cX7_drawBytes 6 RX7 wsX7_drawBytes none D vwCl [(cA, .int)] A) (N : Nat) (a1 : Int32) (a2 : Int32) (l0_31 : Int64) (f2 : Nat → Int32) : ∀ (n : Nat) (v3 : Int32) (v4 : Int32) (f0 : Nat → Int32) (l0_32 : Int64) (f1 : Nat → Int32) (f3 : Nat → Int32) (f8 : Nat → Int32), bfX7_drawBytes_20 N a1 a2 l0_31 f2  n v3 v4 f0 l0_32 f1 f3 f8 = some res → At_ p l e (rmX7_drawBytes) s m args below meth c D vwCl A 6 0 0 (Qv_ below args s D vwCl A (wdX7_13 cA q0 q1 q2 q3 q4 q5 q6 q7 q8 q9 q10 q11 q12 q13 res.1 l0_31 res.2.1 res.2.2.1 f2 res.2.2.2.1 res.2.2.2.2)) 20 [(0, .ref q0), (1, .int a1), (2, .int a2), (3, .int v3), (4, .int v4)] [] (wdX7_13 cA q0 q1 q2 q3 q4 q5 q6 q7 q8 q9 q10 q11 q12 q13 f0 l0_31 l0_32 f1 f2 f3 f8) := by
  intro n
  induction n with
  | zero => intro v3 v4 f0 l0_32 f1 f3 f8 h; cases h
  | succ n hrc20 =>
    intro v3 v4 f0 l0_32 f1 f3 f8 h
    replace h : bFX7_drawBytes_20 N a1 a2 l0_31 f2  (bfX7_drawBytes_20 N a1 a2 l0_31 f2  n) v3 v4 f0 l0_32 f1 f3 f8 = some res := h
    generalize bfX7_drawBytes_20 N a1 a2 l0_31 f2  n = rc20 at h hrc20
    unfold bFX7_drawBytes_20 at h
    refine a_iload C0 dX7_drawBytes_20 4 rfl ?_
    refine a_iload_n C0 dX7_drawBytes_22 rfl 1 rfl ?_
    refine a_icmp_ge C0 77 dX7_drawBytes_23 (by decide) (fun c_8 => ?_) (fun c_8 => ?_)
    · have h := it_ c_8 h
      obtain rfl := Option.some.inj h
      exact a_vret C0 dX7_drawBytes_77 rfl
    · have h := ie_ c_8 h
      refine a_iload_n C0 dX7_drawBytes_26 rfl 2 rfl ?_
      refine a_if_ne C0 40 dX7_drawBytes_27 (by decide) (fun c_9 => ?_) (fun c_9 => ?_)
      · have h := ie_ c_9 h
        refine a_iload_n C0 dX7_drawBytes_40 rfl 2 rfl ?_
        refine a_iconst C0 (1 : Int32) dX7_drawBytes_41 (by decide) ?_
        refine a_icmp_ne C0 56 dX7_drawBytes_42 (by decide) (fun c_10 => ?_) (fun c_10 => ?_)
        · have h := ie_ c_10 h
          refine a_iload_n C0 dX7_drawBytes_56 rfl 3 rfl ?_
          exact bwX7_drawBytes_57 C0 N a1 a2 l0_31 f2 rc20 hrc20 v3 v4 v3 f0 l0_32 f1 f3 f8 h
        · have h := it_ c_10 h
          refine a_bipush C0 (97 : Int32) dX7_drawBytes_45 (by decide) ?_
          refine a_aload_n C0 dX7_drawBytes_47 rfl 0 rfl ?_
          refine a_iconst C0 (3 : Int32) dX7_drawBytes_48 (by decide) ?_
          obtain ⟨r_11, l0_32_12, h_13, h⟩ := bd2_e h
          refine a_callVi C0 (wdX7_13 cA q0 q1 q2 q3 q4 q5 q6 q7 q8 q9 q10 q11 q12 q13 f0 l0_31 l0_32_12 f1 f2 f3 f8) (As := [.int (3 : Int32)]) (rest := [.int (97 : Int32)]) (ctX7_pick l D cA q0 q1 q2 q3 q4 q5 q6 q7 q8 q9 q10 q11 q12 q13 (3 : Int32) f0 l0_31 l0_32 h_13) (cwV 1 C0.1.2.2.2.2 gX7_drawBytes_X7_pick rfl rfl rfl hdX7_pick ⟨Nat.le_of_ble_eq_true rfl, Nat.le_of_ble_eq_true rfl⟩) [0] [1, 2, 3, 4] [4, 0, 1, 2, 3] rfl rfl rfl rfl (by decide) rfl rfl rfl rfl rfl rfl (Nat.le_of_ble_eq_true rfl) dX7_drawBytes_49 ⟨Nat.zero_le _, Nat.zero_le _⟩ ?_
          refine a_iadd C0 dX7_drawBytes_52 ?_
          refine a_goto C0 57 dX7_drawBytes_53 (by decide) ?_
          exact bwX7_drawBytes_57 C0 N a1 a2 l0_31 f2 rc20 hrc20 v3 v4 ((97 : Int32) + r_11) f0 l0_32_12 f1 f3 f8 h
      · have h := it_ c_9 h
        refine a_aload_n C0 dX7_drawBytes_30 rfl 0 rfl ?_
        refine a_sipush C0 (256 : Int32) dX7_drawBytes_31 (by decide) ?_
        obtain ⟨r_14, l0_32_15, h_16, h⟩ := bd2_e h
        refine a_callVi C0 (wdX7_13 cA q0 q1 q2 q3 q4 q5 q6 q7 q8 q9 q10 q11 q12 q13 f0 l0_31 l0_32_15 f1 f2 f3 f8) (As := [.int (256 : Int32)]) (rest := []) (ctX7_pick l D cA q0 q1 q2 q3 q4 q5 q6 q7 q8 q9 q10 q11 q12 q13 (256 : Int32) f0 l0_31 l0_32 h_16) (cwV 1 C0.1.2.2.2.2 gX7_drawBytes_X7_pick rfl rfl rfl hdX7_pick ⟨Nat.le_of_ble_eq_true rfl, Nat.le_of_ble_eq_true rfl⟩) [0] [1, 2, 3, 4] [4, 0, 1, 2, 3] rfl rfl rfl rfl (by decide) rfl rfl rfl rfl rfl rfl (Nat.le_of_ble_eq_true rfl) dX7_drawBytes_34 ⟨Nat.zero_le _, Nat.zero_le _⟩ ?_
        refine a_goto C0 57 dX7_drawBytes_37 (by decide) ?_
        exact bwX7_drawBytes_57 C0 N a1 a2 l0_31 f2 rc20 hrc20 v3 v4 r_14 f0 l0_32_15 f1 f3 f8 h
set_option maxHeartbeats 4000000 in
set_option maxRecDepth 100000 in
theorem bwX7_drawBytes_16 {p : Program} {l : Launch} {e : Env} {s : State} {m : MethodId} {args : Array Value} {below : List Frame} {meth : Method} {c : Code} {D : va_G} {A : Nat → Prop} {cA : ClassId} {q0 q1 q2 q3 q4 q5 q6 q7 q8 q9 q10 q11 q12 q13 : Nat} {res : (Nat → Int32) × Int64 × (Nat → Int32) × (Nat → Int32) × (Nat → Int32)} (C0 : cx p s m args meth c cX7_drawBytes 6 RX7 wsX7_drawBytes none D vwCl [(cA, .int)] A) (N : Nat) (a1 : Int32) (a2 : Int32) (l0_31 : Int64) (f2 : Nat → Int32) (s0 : Int32) (f0 : Nat → Int32) (l0_32 : Int64) (f1 : Nat → Int32) (f3 : Nat → Int32) (f8 : Nat → Int32) (h : bfX7_drawBytes_16 N a1 a2 l0_31 f2  s0 f0 l0_32 f1 f3 f8 = some res) : At_ p l e (rmX7_drawBytes) s m args below meth c D vwCl A 6 0 0 (Qv_ below args s D vwCl A (wdX7_13 cA q0 q1 q2 q3 q4 q5 q6 q7 q8 q9 q10 q11 q12 q13 res.1 l0_31 res.2.1 res.2.2.1 f2 res.2.2.2.1 res.2.2.2.2)) 16 [(0, .ref q0), (1, .int a1), (2, .int a2)] [.int s0] (wdX7_13 cA q0 q1 q2 q3 q4 q5 q6 q7 q8 q9 q10 q11 q12 q13 f0 l0_31 l0_32 f1 f2 f3 f8) := by
  unfold bfX7_drawBytes_16 at h
  refine a_istore_n C0 [(3, .int s0), (0, .ref q0), (1, .int a1), (2, .int a2)] dX7_drawBytes_16 rfl (by decide) rfl ?_
  refine a_iconst C0 (0 : Int32) dX7_drawBytes_17 (by decide) ?_
  refine a_istore C0 [(4, .int (0 : Int32)), (3, .int s0), (0, .ref q0), (1, .int a1), (2, .int a2)] dX7_drawBytes_18 (by decide) rfl ?_
  refine a_lv [2, 3, 4, 1, 0] (lv' := [(0, .ref q0), (1, .int a1), (2, .int a2), (3, .int s0), (4, .int (0 : Int32))]) rfl ?_
  exact bwX7_drawBytes_20 C0 N a1 a2 l0_31 f2 N s0 (0 : Int32) f0 l0_32 f1 f3 f8 h
set_option maxHeartbeats 4000000 in
set_option maxRecDepth 100000 in
theorem bwX7_drawBytes {p : Program} {l : Launch} {e : Env} {s : State} {m : MethodId} {args : Array Value} {below : List Frame} {meth : Method} {c : Code} {D : va_G} {A : Nat → Prop} {cA : ClassId} {q0 q1 q2 q3 q4 q5 q6 q7 q8 q9 q10 q11 q12 q13 : Nat} {res : (Nat → Int32) × Int64 × (Nat → Int32) × (Nat → Int32) × (Nat → Int32)} (C0 : cx p s m args meth c cX7_drawBytes 6 RX7 wsX7_drawBytes none D vwCl [(cA, .int)] A) (N : Nat) (a1 : Int32) (a2 : Int32) (f0 : Nat → Int32) (l0_31 : Int64) (l0_32 : Int64) (f1 : Nat → Int32) (f2 : Nat → Int32) (f3 : Nat → Int32) (f8 : Nat → Int32) (h : pX7_drawBytes N a1 a2 f0 l0_31 l0_32 f1 f2 f3 f8 = some res) : At_ p l e (rmX7_drawBytes) s m args below meth c D vwCl A 6 0 0 (Qv_ below args s D vwCl A (wdX7_13 cA q0 q1 q2 q3 q4 q5 q6 q7 q8 q9 q10 q11 q12 q13 res.1 l0_31 res.2.1 res.2.2.1 f2 res.2.2.2.1 res.2.2.2.2)) 0 [(0, .ref q0), (1, .int a1), (2, .int a2)] [] (wdX7_13 cA q0 q1 q2 q3 q4 q5 q6 q7 q8 q9 q10 q11 q12 q13 f0 l0_31 l0_32 f1 f2 f3 f8) := by
  unfold pX7_drawBytes at h
  refine a_iload_n C0 dX7_drawBytes_0 rfl 2 rfl ?_
  refine a_iconst C0 (2 : Int32) dX7_drawBytes_1 (by decide) ?_
  refine a_icmp_ne C0 15 dX7_drawBytes_2 (by decide) (fun c_17 => ?_) (fun c_17 => ?_)
  · have h := ie_ c_17 h
    refine a_iconst C0 (0 : Int32) dX7_drawBytes_15 (by decide) ?_
    exact bwX7_drawBytes_16 C0 N a1 a2 l0_31 f2 (0 : Int32) f0 l0_32 f1 f3 f8 h
  · have h := it_ c_17 h
    refine a_aload_n C0 dX7_drawBytes_5 rfl 0 rfl ?_
    refine a_sipush C0 (256 : Int32) dX7_drawBytes_6 (by decide) ?_
    obtain ⟨r_18, l0_32_19, h_20, h⟩ := bd2_e h
    refine a_callVi C0 (wdX7_13 cA q0 q1 q2 q3 q4 q5 q6 q7 q8 q9 q10 q11 q12 q13 f0 l0_31 l0_32_19 f1 f2 f3 f8) (As := [.int (256 : Int32)]) (rest := []) (ctX7_pick l D cA q0 q1 q2 q3 q4 q5 q6 q7 q8 q9 q10 q11 q12 q13 (256 : Int32) f0 l0_31 l0_32 h_20) (cwV 1 C0.1.2.2.2.2 gX7_drawBytes_X7_pick rfl rfl rfl hdX7_pick ⟨Nat.le_of_ble_eq_true rfl, Nat.le_of_ble_eq_true rfl⟩) [0] [1, 2, 3, 4] [4, 0, 1, 2, 3] rfl rfl rfl rfl (by decide) rfl rfl rfl rfl rfl rfl (Nat.le_of_ble_eq_true rfl) dX7_drawBytes_9 ⟨Nat.zero_le _, Nat.zero_le _⟩ ?_
    refine a_goto C0 16 dX7_drawBytes_12 (by decide) ?_
    exact bwX7_drawBytes_16 C0 N a1 a2 l0_31 f2 r_18 f0 l0_32_19 f1 f3 f8 h
set_option maxRecDepth 100000 in
theorem ctX7_drawBytes (l : Launch) (D : va_G) (cA : ClassId) (q0 q1 q2 q3 q4 q5 q6 q7 q8 q9 q10 q11 q12 q13 : Nat) (N : Nat) (a1 : Int32) (a2 : Int32) (f0 : Nat → Int32) (l0_31 : Int64) (l0_32 : Int64) (f1 : Nat → Int32) (f2 : Nat → Int32) (f3 : Nat → Int32) (f8 : Nat → Int32) {res : (Nat → Int32) × Int64 × (Nat → Int32) × (Nat → Int32) × (Nat → Int32)} (h : pX7_drawBytes N a1 a2 f0 l0_31 l0_32 f1 f2 f3 f8 = some res) : Ctv l yX7_drawBytes wsX7_drawBytes (rmX7_drawBytes) D vwCl [(cA, .int)] [.ref q0, .int a1, .int a2] (wdX7_13 cA q0 q1 q2 q3 q4 q5 q6 q7 q8 q9 q10 q11 q12 q13 f0 l0_31 l0_32 f1 f2 f3 f8) (wdX7_13 cA q0 q1 q2 q3 q4 q5 q6 q7 q8 q9 q10 q11 q12 q13 res.1 l0_31 res.2.1 res.2.2.1 f2 res.2.2.2.1 res.2.2.2.2) 0 0 :=
  ct_n (S := Unit) (maxL := 6) (cc := cX7_drawBytes) (by decide) rfl (Nat.le_of_ble_eq_true rfl) (fun p e s m below meth c _ C0 => bwX7_drawBytes C0 N a1 a2 f0 l0_31 l0_32 f1 f2 f3 f8 h)
/-! PackDrawerModel.drawRaw -/
theorem hdX7_drawBytes : yX7_drawBytes.cls = RX7 ∧ yX7_drawBytes.cls ≠ "java/lang/invoke/MethodHandle" ∧ yX7_drawBytes.cls ≠ "java/lang/invoke/VarHandle" ∧ (parseMethodDescriptor yX7_drawBytes.desc).map (fun d => d.parameters.length) = some 2 := by decide +kernel
abbrev rmX7_drawRaw : Room := { frames := 2, cells := 0, slots := 0, locals := 48 }
def pX7_drawRaw (N : Nat) (a1 : Int32) (f0 : Nat → Int32) (l0_31 : Int64) (l0_32 : Int64) (f1 : Nat → Int32) (f2 : Nat → Int32) (f3 : Nat → Int32) (f8 : Nat → Int32) : Option ((Nat → Int32) × Int64 × (Nat → Int32) × (Nat → Int32) × (Nat → Int32)) := bd2 (pX7_pick (5 : Int32) f0 l0_31 l0_32) (fun r_1 l0_32_2 => lt_ (((1 : Int32) + r_1)) (fun x_4 => bd2 (pX7_lay x_4 f0 l0_31 l0_32_2 f1) (fun f0_5 f1_6 => bd5 (pX7_drawBytes N x_4 a1 f0_5 l0_31 l0_32_2 f1_6 f2 f3 f8) (fun f0_8 l0_32_9 f1_10 f3_11 f8_12 => some (f0_8, l0_32_9, f1_10, f3_11, f8_12)))))
set_option maxHeartbeats 4000000 in
set_option maxRecDepth 100000 in
theorem bwX7_drawRaw {p : Program} {l : Launch} {e : Env} {s : State} {m : MethodId} {args : Array Value} {below : List Frame} {meth : Method} {c : Code} {D : va_G} {A : Nat → Prop} {cA : ClassId} {q0 q1 q2 q3 q4 q5 q6 q7 q8 q9 q10 q11 q12 q13 : Nat} {res : (Nat → Int32) × Int64 × (Nat → Int32) × (Nat → Int32) × (Nat → Int32)} (C0 : cx p s m args meth c cX7_drawRaw 3 RX7 wsX7_drawRaw none D vwCl [(cA, .int)] A) (N : Nat) (a1 : Int32) (f0 : Nat → Int32) (l0_31 : Int64) (l0_32 : Int64) (f1 : Nat → Int32) (f2 : Nat → Int32) (f3 : Nat → Int32) (f8 : Nat → Int32) (h : pX7_drawRaw N a1 f0 l0_31 l0_32 f1 f2 f3 f8 = some res) : At_ p l e (rmX7_drawRaw) s m args below meth c D vwCl A 3 0 0 (Qv_ below args s D vwCl A (wdX7_13 cA q0 q1 q2 q3 q4 q5 q6 q7 q8 q9 q10 q11 q12 q13 res.1 l0_31 res.2.1 res.2.2.1 f2 res.2.2.2.1 res.2.2.2.2)) 0 [(0, .ref q0), (1, .int a1)] [] (wdX7_13 cA q0 q1 q2 q3 q4 q5 q6 q7 q8 q9 q10 q11 q12 q13 f0 l0_31 l0_32 f1 f2 f3 f8) := by
  unfold pX7_drawRaw at h
  refine a_iconst C0 (1 : Int32) dX7_drawRaw_0 (by decide) ?_
  refine a_aload_n C0 dX7_drawRaw_1 rfl 0 rfl ?_
  refine a_iconst C0 (5 : Int32) dX7_drawRaw_2 (by decide) ?_
  obtain ⟨r_1, l0_32_2, h_3, h⟩ := bd2_e h
  refine a_callVi C0 (wdX7_13 cA q0 q1 q2 q3 q4 q5 q6 q7 q8 q9 q10 q11 q12 q13 f0 l0_31 l0_32_2 f1 f2 f3 f8) (As := [.int (5 : Int32)]) (rest := [.int (1 : Int32)]) (ctX7_pick l D cA q0 q1 q2 q3 q4 q5 q6 q7 q8 q9 q10 q11 q12 q13 (5 : Int32) f0 l0_31 l0_32 h_3) (cwV 1 C0.1.2.2.2.2 gX7_drawRaw_X7_pick rfl rfl rfl hdX7_pick ⟨Nat.le_of_ble_eq_true rfl, Nat.le_of_ble_eq_true rfl⟩) [0] [1, 2, 3, 4] [4, 0, 1, 2, 3] rfl rfl rfl rfl (by decide) rfl rfl rfl rfl rfl rfl (Nat.le_of_ble_eq_true rfl) dX7_drawRaw_3 ⟨Nat.zero_le _, Nat.zero_le _⟩ ?_
  refine a_iadd C0 dX7_drawRaw_6 ?_
  obtain ⟨x_4, ex_4, h⟩ := lt_e h
  refine a_topi ex_4 ?_
  refine a_istore_n C0 [(2, .int x_4), (0, .ref q0), (1, .int a1)] dX7_drawRaw_7 rfl (by decide) rfl ?_
  refine a_aload_n C0 dX7_drawRaw_8 rfl 1 rfl ?_
  refine a_iload_n C0 dX7_drawRaw_9 rfl 0 rfl ?_
  obtain ⟨f0_5, f1_6, h_7, h⟩ := bd2_e h
  refine a_callVv C0 (wdX7_13 cA q0 q1 q2 q3 q4 q5 q6 q7 q8 q9 q10 q11 q12 q13 f0_5 l0_31 l0_32_2 f1_6 f2 f3 f8) (As := [.int x_4]) (rest := []) (ctX7_lay l D cA q0 q1 q2 q3 q4 q5 q6 q7 q8 q9 q10 q11 q12 q13 x_4 f0 l0_31 l0_32_2 f1 h_7) (cwV 1 C0.1.2.2.2.2 gX7_drawRaw_X7_lay rfl rfl rfl hdX7_lay ⟨Nat.le_of_ble_eq_true rfl, Nat.le_of_ble_eq_true rfl⟩) [0, 1] [2, 3, 4] [3, 4, 0, 1, 2] rfl rfl rfl rfl (by decide) rfl rfl rfl rfl rfl rfl (Nat.le_of_ble_eq_true rfl) dX7_drawRaw_10 ⟨Nat.zero_le _, Nat.zero_le _⟩ ?_
  refine a_aload_n C0 dX7_drawRaw_13 rfl 1 rfl ?_
  refine a_iload_n C0 dX7_drawRaw_14 rfl 0 rfl ?_
  refine a_iload_n C0 dX7_drawRaw_15 rfl 2 rfl ?_
  obtain ⟨f0_8, l0_32_9, f1_10, f3_11, f8_12, h_13, h⟩ := bd5_e h
  refine a_callVv C0 (wdX7_13 cA q0 q1 q2 q3 q4 q5 q6 q7 q8 q9 q10 q11 q12 q13 f0_8 l0_31 l0_32_9 f1_10 f2 f3_11 f8_12) (As := [.int x_4, .int a1]) (rest := []) (ctX7_drawBytes l D cA q0 q1 q2 q3 q4 q5 q6 q7 q8 q9 q10 q11 q12 q13 N x_4 a1 f0_5 l0_31 l0_32_2 f1_6 f2 f3 f8 h_13) (cwV 2 C0.1.2.2.2.2 gX7_drawRaw_X7_drawBytes rfl rfl rfl hdX7_drawBytes ⟨Nat.le_of_ble_eq_true rfl, Nat.le_of_ble_eq_true rfl⟩) [0, 1, 2, 3, 4] [] [0, 1, 2, 3, 4] rfl rfl rfl rfl (by decide) rfl rfl rfl rfl rfl rfl (Nat.le_of_ble_eq_true rfl) dX7_drawRaw_16 ⟨Nat.zero_le _, Nat.zero_le _⟩ ?_
  obtain rfl := Option.some.inj h
  exact a_vret C0 dX7_drawRaw_19 rfl
set_option maxRecDepth 100000 in
theorem ctX7_drawRaw (l : Launch) (D : va_G) (cA : ClassId) (q0 q1 q2 q3 q4 q5 q6 q7 q8 q9 q10 q11 q12 q13 : Nat) (N : Nat) (a1 : Int32) (f0 : Nat → Int32) (l0_31 : Int64) (l0_32 : Int64) (f1 : Nat → Int32) (f2 : Nat → Int32) (f3 : Nat → Int32) (f8 : Nat → Int32) {res : (Nat → Int32) × Int64 × (Nat → Int32) × (Nat → Int32) × (Nat → Int32)} (h : pX7_drawRaw N a1 f0 l0_31 l0_32 f1 f2 f3 f8 = some res) : Ctv l yX7_drawRaw wsX7_drawRaw (rmX7_drawRaw) D vwCl [(cA, .int)] [.ref q0, .int a1] (wdX7_13 cA q0 q1 q2 q3 q4 q5 q6 q7 q8 q9 q10 q11 q12 q13 f0 l0_31 l0_32 f1 f2 f3 f8) (wdX7_13 cA q0 q1 q2 q3 q4 q5 q6 q7 q8 q9 q10 q11 q12 q13 res.1 l0_31 res.2.1 res.2.2.1 f2 res.2.2.2.1 res.2.2.2.2) 0 0 :=
  ct_n (S := Unit) (maxL := 3) (cc := cX7_drawRaw) (by decide) rfl (Nat.le_of_ble_eq_true rfl) (fun p e s m below meth c _ C0 => bwX7_drawRaw C0 N a1 f0 l0_31 l0_32 f1 f2 f3 f8 h)
/-! PackDrawerModel.drawItem -/
abbrev wdX7_14 (cA : ClassId) (q0 q1 q2 q3 q4 q5 q6 q7 q8 q9 q10 q11 q12 q13 : Nat) (f0 : Nat → Int32) (l0_31 : Int64) (l0_32 : Int64) (f1 : Nat → Int32) (f2 : Nat → Int32) (f3 : Nat → Int32) (f4 : Nat → Int32) (f5 : Nat → Int32) (f6 : Nat → Int32) (f7 : Nat → Int32) (f8 : Nat → Int32) : va_W := [(q0, .inr (7, [.ref q1, .int (f0 1), .int (f0 2), .ref q2, .ref q3, .ref q4, .ref q5, .ref q6, .ref q7, .ref q8, .int (f0 10), .ref q9, .ref q10, .ref q11, .int (f0 14), .int (f0 15), .int (f0 16), .int (f0 17), .int (f0 18), .int (f0 19), .int (f0 20), .int (f0 21), .int (f0 22), .int (f0 23), .int (f0 24), .int (f0 25), .int (f0 26), .int (f0 27), .int (f0 28), .ref q12, .ref q13, .long l0_31, .long l0_32])), (q1, .inl (cA, 160, .inl f1)), (q2, .inl (cA, 6, .inl f2)), (q3, .inl (cA, 6, .inl f3)), (q4, .inl (cA, 6, .inl f4)), (q5, .inl (cA, 6, .inl f5)), (q6, .inl (cA, 6, .inl f6)), (q7, .inl (cA, 6, .inl f7)), (q8, .inl (cA, 2000, .inl f8))]
theorem hdX7_drawRaw : yX7_drawRaw.cls = RX7 ∧ yX7_drawRaw.cls ≠ "java/lang/invoke/MethodHandle" ∧ yX7_drawRaw.cls ≠ "java/lang/invoke/VarHandle" ∧ (parseMethodDescriptor yX7_drawRaw.desc).map (fun d => d.parameters.length) = some 1 := by decide +kernel
abbrev rmX7_drawItem : Room := { frames := 3, cells := 0, slots := 0, locals := 70 }
theorem lkX7_drawItem_31 : Cond.fieldLink RX7 31 RX7 (TX7 9).2.1 (TX7 9).2.2.1 ∈ wsX7_drawItem := by decide +kernel
theorem inX7_drawItem_X7 : ∀ w ∈ u_ws RX7 TX7 33, w ∈ wsX7_drawItem := by decide +kernel
theorem lkX7_drawItem_13 : Cond.fieldLink RX7 13 RX7 (TX7 3).2.1 (TX7 3).2.2.1 ∈ wsX7_drawItem := by decide +kernel
theorem lkX7_drawItem_66 : Cond.fieldLink RX7 66 RX7 (TX7 2).2.1 (TX7 2).2.2.1 ∈ wsX7_drawItem := by decide +kernel
theorem lkX7_drawItem_16 : Cond.fieldLink RX7 16 RX7 (TX7 4).2.1 (TX7 4).2.2.1 ∈ wsX7_drawItem := by decide +kernel
theorem lkX7_drawItem_53 : Cond.fieldLink RX7 53 RX7 (TX7 1).2.1 (TX7 1).2.2.1 ∈ wsX7_drawItem := by decide +kernel
theorem lkX7_drawItem_19 : Cond.fieldLink RX7 19 RX7 (TX7 5).2.1 (TX7 5).2.2.1 ∈ wsX7_drawItem := by decide +kernel
def bFX7_drawItem_93 (N : Nat) (a1 : Int32) (a2 : Int32) (l0_31 : Int64) (rc93 : Int32 → Int32 → Int32 → (Nat → Int32) → Int64 → (Nat → Int32) → (Nat → Int32) → (Nat → Int32) → (Nat → Int32) → (Nat → Int32) → (Nat → Int32) → (Nat → Int32) → (Nat → Int32) → Option ((Nat → Int32) × Int64 × (Nat → Int32) × (Nat → Int32) × (Nat → Int32) × (Nat → Int32) × (Nat → Int32) × (Nat → Int32) × (Nat → Int32) × (Nat → Int32))) (v4 : Int32) (v5 : Int32) (v6 : Int32) (f0 : Nat → Int32) (l0_32 : Int64) (f1 : Nat → Int32) (f2 : Nat → Int32) (f3 : Nat → Int32) (f4 : Nat → Int32) (f5 : Nat → Int32) (f6 : Nat → Int32) (f7 : Nat → Int32) (f8 : Nat → Int32) : Option ((Nat → Int32) × Int64 × (Nat → Int32) × (Nat → Int32) × (Nat → Int32) × (Nat → Int32) × (Nat → Int32) × (Nat → Int32) × (Nat → Int32) × (Nat → Int32)) := if v4 ≤ v6 then some (f0, l0_32, f1, f2, f3, f4, f5, f6, f7, f8) else gi_ (f0 2) 6 (gi_ (f0 2) 6 (gi_ ((((f2 (f0 2).toNatClampNeg) + (f3 (f0 2).toNatClampNeg)) - v5) - (1 : Int32)) 2000 (bd2 (pX7_gives (f8 ((((f2 (f0 2).toNatClampNeg) + (f3 (f0 2).toNatClampNeg)) - v5) - (1 : Int32)).toNatClampNeg) f0 l0_31 l0_32 f2 f3 f8) (fun f3_5 f8_6 => lt_ ((v6 + (1 : Int32))) (fun x_8 => rc93 v4 v5 x_8 f0 l0_32 f1 f2 f3_5 f4 f5 f6 f7 f8_6)))))
def bfX7_drawItem_93 (N : Nat) (a1 : Int32) (a2 : Int32) (l0_31 : Int64) : Nat → Int32 → Int32 → Int32 → (Nat → Int32) → Int64 → (Nat → Int32) → (Nat → Int32) → (Nat → Int32) → (Nat → Int32) → (Nat → Int32) → (Nat → Int32) → (Nat → Int32) → (Nat → Int32) → Option ((Nat → Int32) × Int64 × (Nat → Int32) × (Nat → Int32) × (Nat → Int32) × (Nat → Int32) × (Nat → Int32) × (Nat → Int32) × (Nat → Int32) × (Nat → Int32))
  | 0 => fun _ _ _ _ _ _ _ _ _ _ _ _ _ => none
  | n + 1 => bFX7_drawItem_93 N a1 a2 l0_31  (bfX7_drawItem_93 N a1 a2 l0_31  n)
def bfX7_drawItem_70 (N : Nat) (a1 : Int32) (a2 : Int32) (l0_31 : Int64) (v4 : Int32) (s1 : Int32) (f0 : Nat → Int32) (l0_32 : Int64) (f1 : Nat → Int32) (f2 : Nat → Int32) (f3 : Nat → Int32) (f4 : Nat → Int32) (f5 : Nat → Int32) (f6 : Nat → Int32) (f7 : Nat → Int32) (f8 : Nat → Int32) : Option ((Nat → Int32) × Int64 × (Nat → Int32) × (Nat → Int32) × (Nat → Int32) × (Nat → Int32) × (Nat → Int32) × (Nat → Int32) × (Nat → Int32) × (Nat → Int32)) := bd2 (pX7_pick s1 f0 l0_31 l0_32) (fun r_9 l0_32_10 => bd2 (pX7_lay ((62 : Int32) + v4) f0 l0_31 l0_32_10 f1) (fun f0_12 f1_13 => bd2 (pX7_lay r_9 f0_12 l0_31 l0_32_10 f1_13) (fun f0_15 f1_16 => bfX7_drawItem_93 N a1 a2 l0_31 N v4 r_9 (0 : Int32) f0_15 l0_32_10 f1_16 f2 f3 f4 f5 f6 f7 f8)))
def bFX7_drawItem_218 (N : Nat) (a1 : Int32) (a2 : Int32) (l0_31 : Int64) (rc218 : Int32 → Int32 → Int32 → Int32 → (Nat → Int32) → Int64 → (Nat → Int32) → (Nat → Int32) → (Nat → Int32) → (Nat → Int32) → (Nat → Int32) → (Nat → Int32) → (Nat → Int32) → (Nat → Int32) → Option ((Nat → Int32) × Int64 × (Nat → Int32) × (Nat → Int32) × (Nat → Int32) × (Nat → Int32) × (Nat → Int32) × (Nat → Int32) × (Nat → Int32) × (Nat → Int32))) (v4 : Int32) (v5 : Int32) (v6 : Int32) (v7 : Int32) (f0 : Nat → Int32) (l0_32 : Int64) (f1 : Nat → Int32) (f2 : Nat → Int32) (f3 : Nat → Int32) (f4 : Nat → Int32) (f5 : Nat → Int32) (f6 : Nat → Int32) (f7 : Nat → Int32) (f8 : Nat → Int32) : Option ((Nat → Int32) × Int64 × (Nat → Int32) × (Nat → Int32) × (Nat → Int32) × (Nat → Int32) × (Nat → Int32) × (Nat → Int32) × (Nat → Int32) × (Nat → Int32)) := if ((v4 - (1 : Int32)) * v6) ≤ v7 then some (f0, l0_32, f1, f2, f3, f4, f5, f6, f7, f8) else gz_ (decide (¬ v6 = 0)) (gi_ (v5 + (v7 - v7 / v6 * v6)) 2000 (bd2 (pX7_gives (f8 (v5 + (v7 - v7 / v6 * v6)).toNatClampNeg) f0 l0_31 l0_32 f2 f3 f8) (fun f3_21 f8_22 => lt_ ((v7 + (1 : Int32))) (fun x_24 => rc218 v4 v5 v6 x_24 f0 l0_32 f1 f2 f3_21 f4 f5 f6 f7 f8_22))))
def bfX7_drawItem_218 (N : Nat) (a1 : Int32) (a2 : Int32) (l0_31 : Int64) : Nat → Int32 → Int32 → Int32 → Int32 → (Nat → Int32) → Int64 → (Nat → Int32) → (Nat → Int32) → (Nat → Int32) → (Nat → Int32) → (Nat → Int32) → (Nat → Int32) → (Nat → Int32) → (Nat → Int32) → Option ((Nat → Int32) × Int64 × (Nat → Int32) × (Nat → Int32) × (Nat → Int32) × (Nat → Int32) × (Nat → Int32) × (Nat → Int32) × (Nat → Int32) × (Nat → Int32))
  | 0 => fun _ _ _ _ _ _ _ _ _ _ _ _ _ _ => none
  | n + 1 => bFX7_drawItem_218 N a1 a2 l0_31  (bfX7_drawItem_218 N a1 a2 l0_31  n)
def bfX7_drawItem_328 (N : Nat) (a1 : Int32) (a2 : Int32) (l0_31 : Int64) (v3 : Int32) (f0 : Nat → Int32) (l0_32 : Int64) (f1 : Nat → Int32) (f2 : Nat → Int32) (f3 : Nat → Int32) (f4 : Nat → Int32) (f5 : Nat → Int32) (f6 : Nat → Int32) (f7 : Nat → Int32) (f8 : Nat → Int32) : Option ((Nat → Int32) × Int64 × (Nat → Int32) × (Nat → Int32) × (Nat → Int32) × (Nat → Int32) × (Nat → Int32) × (Nat → Int32) × (Nat → Int32) × (Nat → Int32)) := if v3 = (7 : Int32) then bd2 (pX7_pick (5 : Int32) f0 l0_31 l0_32) (fun r_32 l0_32_33 => lt_ (((1 : Int32) + r_32)) (fun x_35 => bd2 (pX7_lay (255 : Int32) f0 l0_31 l0_32_33 f1) (fun f0_36 f1_37 => bd2 (pX7_lay (0 : Int32) f0_36 l0_31 l0_32_33 f1_37) (fun f0_39 f1_40 => bd2 (pX7_lay x_35 f0_39 l0_31 l0_32_33 f1_40) (fun f0_42 f1_43 => bd5 (pX7_drawBytes N x_35 a1 f0_42 l0_31 l0_32_33 f1_43 f2 f3 f8) (fun f0_45 l0_32_46 f1_47 f3_48 f8_49 => some (f0_45, l0_32_46, f1_47, f2, f3_48, f4, f5, f6, f7, f8_49))))))) else bd5 (pX7_drawRaw N a1 f0 l0_31 l0_32 f1 f2 f3 f8) (fun f0_26 l0_32_27 f1_28 f3_29 f8_30 => some (f0_26, l0_32_27, f1_28, f2, f3_29, f4, f5, f6, f7, f8_30))
def bfX7_drawItem_142 (N : Nat) (a1 : Int32) (a2 : Int32) (l0_31 : Int64) (v3 : Int32) (f0 : Nat → Int32) (l0_32 : Int64) (f1 : Nat → Int32) (f2 : Nat → Int32) (f3 : Nat → Int32) (f4 : Nat → Int32) (f5 : Nat → Int32) (f6 : Nat → Int32) (f7 : Nat → Int32) (f8 : Nat → Int32) : Option ((Nat → Int32) × Int64 × (Nat → Int32) × (Nat → Int32) × (Nat → Int32) × (Nat → Int32) × (Nat → Int32) × (Nat → Int32) × (Nat → Int32) × (Nat → Int32)) := if v3 = (5 : Int32) then bd2 (pX7_pick (4 : Int32) f0 l0_31 l0_32) (fun r_74 l0_32_75 => lt_ (((2 : Int32) + r_74)) (fun x_77 => gi_ (f0 2) 6 (gi_ (f0 2) 6 (lt_ (((f2 (f0 2).toNatClampNeg) + (f3 (f0 2).toNatClampNeg))) (fun x_80 => bd2 (pX7_lay ((126 : Int32) + x_77) f0 l0_31 l0_32_75 f1) (fun f0_81 f1_82 => bd5 (pX7_drawRaw N a1 f0_81 l0_31 l0_32_75 f1_82 f2 f3 f8) (fun f0_84 l0_32_85 f1_86 f3_87 f8_88 => gi_ (f0_84 2) 6 (gi_ (f0_84 2) 6 (lt_ ((((f2 (f0_84 2).toNatClampNeg) + (f3_87 (f0_84 2).toNatClampNeg)) - x_80)) (fun x_92 => bfX7_drawItem_218 N a1 a2 l0_31 N x_77 x_80 x_92 (0 : Int32) f0_84 l0_32_85 f1_86 f2 f3_87 f4 f5 f6 f7 f8_88)))))))))) else if v3 = (6 : Int32) then if (3 : Int32) ≤ (f0 2) then bfX7_drawItem_328 N a1 a2 l0_31 v3 f0 l0_32 f1 f2 f3 f4 f5 f6 f7 f8 else bd2 (pX7_lay (192 : Int32) f0 l0_31 l0_32 f1) (fun f0_54 f1_55 => bd2 (pX7_lay (0 : Int32) f0_54 l0_31 l0_32 f1_55) (fun f0_57 f1_58 => lt_ (upd f0_57 2 ((f0_57 2) + (1 : Int32))) (fun f0_60 => bd7 (pX7_opens (0 : Int32) ((f0_60 1) - (2 : Int32)) ((f0_60 1) - (1 : Int32)) f0_60 l0_31 l0_32 f2 f3 f4 f5 f6 f7) (fun f0_61 f2_62 f3_63 f4_64 f5_65 f6_66 f7_67 => bd2 (pX7_pick a2 f0_61 l0_31 l0_32) (fun r_69 l0_32_70 => gi_ (f0_61 2) 6 (lt_ (upd f4_64 (f0_61 2).toNatClampNeg ((1 : Int32) + r_69)) (fun f4_73 => some (f0_61, l0_32_70, f1_58, f2_62, f3_63, f4_73, f5_65, f6_66, f7_67, f8)))))))) else bfX7_drawItem_328 N a1 a2 l0_31 v3 f0 l0_32 f1 f2 f3 f4 f5 f6 f7 f8
def bfX7_drawItem_17 (N : Nat) (a1 : Int32) (a2 : Int32) (l0_31 : Int64) (v3 : Int32) (f0 : Nat → Int32) (l0_32 : Int64) (f1 : Nat → Int32) (f2 : Nat → Int32) (f3 : Nat → Int32) (f4 : Nat → Int32) (f5 : Nat → Int32) (f6 : Nat → Int32) (f7 : Nat → Int32) (f8 : Nat → Int32) : Option ((Nat → Int32) × Int64 × (Nat → Int32) × (Nat → Int32) × (Nat → Int32) × (Nat → Int32) × (Nat → Int32) × (Nat → Int32) × (Nat → Int32) × (Nat → Int32)) := gi_ (f0 2) 6 (if (f3 (f0 2).toNatClampNeg) ≤ 0 then bfX7_drawItem_142 N a1 a2 l0_31 v3 f0 l0_32 f1 f2 f3 f4 f5 f6 f7 f8 else bd2 (pX7_pick (6 : Int32) f0 l0_31 l0_32) (fun r_95 l0_32_96 => lt_ (((2 : Int32) + r_95)) (fun x_98 => gi_ (f0 2) 6 (if (256 : Int32) ≤ (f3 (f0 2).toNatClampNeg) then bfX7_drawItem_70 N a1 a2 l0_31 x_98 (256 : Int32) f0 l0_32_96 f1 f2 f3 f4 f5 f6 f7 f8 else gi_ (f0 2) 6 (bfX7_drawItem_70 N a1 a2 l0_31 x_98 (f3 (f0 2).toNatClampNeg) f0 l0_32_96 f1 f2 f3 f4 f5 f6 f7 f8)))))
def pX7_drawItem (N : Nat) (a1 : Int32) (a2 : Int32) (f0 : Nat → Int32) (l0_31 : Int64) (l0_32 : Int64) (f1 : Nat → Int32) (f2 : Nat → Int32) (f3 : Nat → Int32) (f4 : Nat → Int32) (f5 : Nat → Int32) (f6 : Nat → Int32) (f7 : Nat → Int32) (f8 : Nat → Int32) : Option ((Nat → Int32) × Int64 × (Nat → Int32) × (Nat → Int32) × (Nat → Int32) × (Nat → Int32) × (Nat → Int32) × (Nat → Int32) × (Nat → Int32) × (Nat → Int32)) := bd2 (pX7_pick (8 : Int32) f0 l0_31 l0_32) (fun r_102 l0_32_103 => if r_102 = (3 : Int32) then bfX7_drawItem_17 N a1 a2 l0_31 r_102 f0 l0_32_103 f1 f2 f3 f4 f5 f6 f7 f8 else if r_102 = (4 : Int32) then bfX7_drawItem_17 N a1 a2 l0_31 r_102 f0 l0_32_103 f1 f2 f3 f4 f5 f6 f7 f8 else bfX7_drawItem_142 N a1 a2 l0_31 r_102 f0 l0_32_103 f1 f2 f3 f4 f5 f6 f7 f8)
set_option maxHeartbeats 4000000 in
set_option maxRecDepth 100000 in
theorem bwX7_drawItem_93 {p : Program} {l : Launch} {e : Env} {s : State} {m : MethodId} {args : Array Value} {below : List Frame} {meth : Method} {c : Code} {D : va_G} {A : Nat → Prop} {cA : ClassId} {q0 q1 q2 q3 q4 q5 q6 q7 q8 q9 q10 q11 q12 q13 : Nat} {res : (Nat → Int32) × Int64 × (Nat → Int32) × (Nat → Int32) × (Nat → Int32) × (Nat → Int32) × (Nat → Int32) × (Nat → Int32) × (Nat → Int32) × (Nat → Int32)} (C0 : cx p s m args meth c cX7_drawItem 8 RX7 wsX7_drawItem none D vwCl [(cA, .int)] A) (N : Nat) (a1 : Int32) (a2 : Int32) (l0_31 : Int64) : ∀ (n : Nat) (v4 : Int32) (v5 : Int32) (v6 : Int32) (f0 : Nat → Int32) (l0_32 : Int64) (f1 : Nat → Int32) (f2 : Nat → Int32) (f3 : Nat → Int32) (f4 : Nat → Int32) (f5 : Nat → Int32) (f6 : Nat → Int32) (f7 : Nat → Int32) (f8 : Nat → Int32), bfX7_drawItem_93 N a1 a2 l0_31  n v4 v5 v6 f0 l0_32 f1 f2 f3 f4 f5 f6 f7 f8 = some res → At_ p l e (rmX7_drawItem) s m args below meth c D vwCl A 8 0 0 (Qv_ below args s D vwCl A (wdX7_14 cA q0 q1 q2 q3 q4 q5 q6 q7 q8 q9 q10 q11 q12 q13 res.1 l0_31 res.2.1 res.2.2.1 res.2.2.2.1 res.2.2.2.2.1 res.2.2.2.2.2.1 res.2.2.2.2.2.2.1 res.2.2.2.2.2.2.2.1 res.2.2.2.2.2.2.2.2.1 res.2.2.2.2.2.2.2.2.2)) 93 [(0, .ref q0), (1, .int a1), (2, .int a2), (4, .int v4), (5, .int v5), (6, .int v6)] [] (wdX7_14 cA q0 q1 q2 q3 q4 q5 q6 q7 q8 q9 q10 q11 q12 q13 f0 l0_31 l0_32 f1 f2 f3 f4 f5 f6 f7 f8) := by
  intro n
  induction n with
  | zero => intro v4 v5 v6 f0 l0_32 f1 f2 f3 f4 f5 f6 f7 f8 h; cases h
  | succ n hrc93 =>
    intro v4 v5 v6 f0 l0_32 f1 f2 f3 f4 f5 f6 f7 f8 h
    replace h : bFX7_drawItem_93 N a1 a2 l0_31  (bfX7_drawItem_93 N a1 a2 l0_31  n) v4 v5 v6 f0 l0_32 f1 f2 f3 f4 f5 f6 f7 f8 = some res := h
    generalize bfX7_drawItem_93 N a1 a2 l0_31  n = rc93 at h hrc93
    unfold bFX7_drawItem_93 at h
    refine a_iload C0 dX7_drawItem_93 5 rfl ?_
    refine a_iload C0 dX7_drawItem_95 3 rfl ?_
    refine a_icmp_ge C0 139 dX7_drawItem_97 (by decide) (fun c_1 => ?_) (fun c_1 => ?_)
    · have h := it_ c_1 h
      refine a_goto C0 376 dX7_drawItem_139 (by decide) ?_
      obtain rfl := Option.some.inj h
      exact a_vret C0 dX7_drawItem_376 rfl
    · have h := ie_ c_1 h
      refine a_aload_n C0 dX7_drawItem_100 rfl 0 rfl ?_
      refine a_aload_n C0 dX7_drawItem_101 rfl 0 rfl ?_
      refine a_get C0 inX7_drawItem_X7 0 rfl rfl 9 (by decide) lkX7_drawItem_31 (fun _ h9 => h9) (.ref q8) rfl dX7_drawItem_102 ?_
      refine a_aload_n C0 dX7_drawItem_105 rfl 0 rfl ?_
      refine a_get C0 inX7_drawItem_X7 0 rfl rfl 3 (by decide) lkX7_drawItem_13 (fun _ h9 => h9) (.ref q2) rfl dX7_drawItem_106 ?_
      refine a_aload_n C0 dX7_drawItem_109 rfl 0 rfl ?_
      refine a_get C0 inX7_drawItem_X7 0 rfl rfl 2 (by decide) lkX7_drawItem_66 (fun _ h9 => h9) (.int (f0 2)) rfl dX7_drawItem_110 ?_
      obtain ⟨g_2, h⟩ := gi_e h
      refine a_iald C0 2 0 rfl rfl g_2 dX7_drawItem_113 ?_
      refine a_aload_n C0 dX7_drawItem_114 rfl 0 rfl ?_
      refine a_get C0 inX7_drawItem_X7 0 rfl rfl 4 (by decide) lkX7_drawItem_16 (fun _ h9 => h9) (.ref q3) rfl dX7_drawItem_115 ?_
      refine a_aload_n C0 dX7_drawItem_118 rfl 0 rfl ?_
      refine a_get C0 inX7_drawItem_X7 0 rfl rfl 2 (by decide) lkX7_drawItem_66 (fun _ h9 => h9) (.int (f0 2)) rfl dX7_drawItem_119 ?_
      obtain ⟨g_3, h⟩ := gi_e h
      refine a_iald C0 3 0 rfl rfl g_3 dX7_drawItem_122 ?_
      refine a_iadd C0 dX7_drawItem_123 ?_
      refine a_iload C0 dX7_drawItem_124 4 rfl ?_
      refine a_isub C0 dX7_drawItem_126 ?_
      refine a_iconst C0 (1 : Int32) dX7_drawItem_127 (by decide) ?_
      refine a_isub C0 dX7_drawItem_128 ?_
      obtain ⟨g_4, h⟩ := gi_e h
      refine a_iald C0 8 0 rfl rfl g_4 dX7_drawItem_129 ?_
      obtain ⟨f3_5, f8_6, h_7, h⟩ := bd2_e h
      refine a_callVv C0 (wdX7_14 cA q0 q1 q2 q3 q4 q5 q6 q7 q8 q9 q10 q11 q12 q13 f0 l0_31 l0_32 f1 f2 f3_5 f4 f5 f6 f7 f8_6) (As := [.int (f8 ((((f2 (f0 2).toNatClampNeg) + (f3 (f0 2).toNatClampNeg)) - v5) - (1 : Int32)).toNatClampNeg)]) (rest := []) (ctX7_gives l D cA q0 q1 q2 q3 q4 q5 q6 q7 q8 q9 q10 q11 q12 q13 (f8 ((((f2 (f0 2).toNatClampNeg) + (f3 (f0 2).toNatClampNeg)) - v5) - (1 : Int32)).toNatClampNeg) f0 l0_31 l0_32 f2 f3 f8 h_7) (cwV 1 C0.1.2.2.2.2 gX7_drawItem_X7_gives rfl rfl rfl hdX7_gives ⟨Nat.le_of_ble_eq_true rfl, Nat.le_of_ble_eq_true rfl⟩) [0, 2, 3, 8] [1, 4, 5, 6, 7] [5, 0, 6, 7, 1, 2, 3, 4, 8] rfl rfl rfl rfl (by decide) rfl rfl rfl rfl rfl rfl (Nat.le_of_ble_eq_true rfl) dX7_drawItem_130 ⟨Nat.zero_le _, Nat.zero_le _⟩ ?_
      obtain ⟨x_8, ex_8, h⟩ := lt_e h
      refine a_iinc C0 x_8 [(6, .int x_8), (0, .ref q0), (1, .int a1), (2, .int a2), (4, .int v4), (5, .int v5)] dX7_drawItem_133 5 rfl (by subst ex_8; rfl) (by decide) rfl ?_
      refine a_goto C0 93 dX7_drawItem_136 (by decide) ?_
      refine a_lv [1, 2, 3, 4, 5, 0] (lv' := [(0, .ref q0), (1, .int a1), (2, .int a2), (4, .int v4), (5, .int v5), (6, .int x_8)]) rfl ?_
      exact hrc93 v4 v5 x_8 f0 l0_32 f1 f2 f3_5 f4 f5 f6 f7 f8_6 h
set_option maxHeartbeats 4000000 in
set_option maxRecDepth 100000 in
theorem bwX7_drawItem_70 {p : Program} {l : Launch} {e : Env} {s : State} {m : MethodId} {args : Array Value} {below : List Frame} {meth : Method} {c : Code} {D : va_G} {A : Nat → Prop} {cA : ClassId} {q0 q1 q2 q3 q4 q5 q6 q7 q8 q9 q10 q11 q12 q13 : Nat} {res : (Nat → Int32) × Int64 × (Nat → Int32) × (Nat → Int32) × (Nat → Int32) × (Nat → Int32) × (Nat → Int32) × (Nat → Int32) × (Nat → Int32) × (Nat → Int32)} (C0 : cx p s m args meth c cX7_drawItem 8 RX7 wsX7_drawItem none D vwCl [(cA, .int)] A) (N : Nat) (a1 : Int32) (a2 : Int32) (l0_31 : Int64) (v4 : Int32) (s1 : Int32) (f0 : Nat → Int32) (l0_32 : Int64) (f1 : Nat → Int32) (f2 : Nat → Int32) (f3 : Nat → Int32) (f4 : Nat → Int32) (f5 : Nat → Int32) (f6 : Nat → Int32) (f7 : Nat → Int32) (f8 : Nat → Int32) (h : bfX7_drawItem_70 N a1 a2 l0_31  v4 s1 f0 l0_32 f1 f2 f3 f4 f5 f6 f7 f8 = some res) : At_ p l e (rmX7_drawItem) s m args below meth c D vwCl A 8 0 0 (Qv_ below args s D vwCl A (wdX7_14 cA q0 q1 q2 q3 q4 q5 q6 q7 q8 q9 q10 q11 q12 q13 res.1 l0_31 res.2.1 res.2.2.1 res.2.2.2.1 res.2.2.2.2.1 res.2.2.2.2.2.1 res.2.2.2.2.2.2.1 res.2.2.2.2.2.2.2.1 res.2.2.2.2.2.2.2.2.1 res.2.2.2.2.2.2.2.2.2)) 70 [(0, .ref q0), (1, .int a1), (2, .int a2), (4, .int v4)] [.int s1, .ref q0] (wdX7_14 cA q0 q1 q2 q3 q4 q5 q6 q7 q8 q9 q10 q11 q12 q13 f0 l0_31 l0_32 f1 f2 f3 f4 f5 f6 f7 f8) := by
  unfold bfX7_drawItem_70 at h
  obtain ⟨r_9, l0_32_10, h_11, h⟩ := bd2_e h
  refine a_callVi C0 (wdX7_14 cA q0 q1 q2 q3 q4 q5 q6 q7 q8 q9 q10 q11 q12 q13 f0 l0_31 l0_32_10 f1 f2 f3 f4 f5 f6 f7 f8) (As := [.int s1]) (rest := []) (ctX7_pick l D cA q0 q1 q2 q3 q4 q5 q6 q7 q8 q9 q10 q11 q12 q13 s1 f0 l0_31 l0_32 h_11) (cwV 1 C0.1.2.2.2.2 gX7_drawItem_X7_pick rfl rfl rfl hdX7_pick ⟨Nat.le_of_ble_eq_true rfl, Nat.le_of_ble_eq_true rfl⟩) [0] [1, 2, 3, 4, 5, 6, 7, 8] [8, 0, 1, 2, 3, 4, 5, 6, 7] rfl rfl rfl rfl (by decide) rfl rfl rfl rfl rfl rfl (Nat.le_of_ble_eq_true rfl) dX7_drawItem_70 ⟨Nat.zero_le _, Nat.zero_le _⟩ ?_
  refine a_istore C0 [(5, .int r_9), (0, .ref q0), (1, .int a1), (2, .int a2), (4, .int v4)] dX7_drawItem_73 (by decide) rfl ?_
  refine a_aload_n C0 dX7_drawItem_75 rfl 1 rfl ?_
  refine a_bipush C0 (62 : Int32) dX7_drawItem_76 (by decide) ?_
  refine a_iload C0 dX7_drawItem_78 4 rfl ?_
  refine a_iadd C0 dX7_drawItem_80 ?_
  obtain ⟨f0_12, f1_13, h_14, h⟩ := bd2_e h
  refine a_callVv C0 (wdX7_14 cA q0 q1 q2 q3 q4 q5 q6 q7 q8 q9 q10 q11 q12 q13 f0_12 l0_31 l0_32_10 f1_13 f2 f3 f4 f5 f6 f7 f8) (As := [.int ((62 : Int32) + v4)]) (rest := []) (ctX7_lay l D cA q0 q1 q2 q3 q4 q5 q6 q7 q8 q9 q10 q11 q12 q13 ((62 : Int32) + v4) f0 l0_31 l0_32_10 f1 h_14) (cwV 1 C0.1.2.2.2.2 gX7_drawItem_X7_lay rfl rfl rfl hdX7_lay ⟨Nat.le_of_ble_eq_true rfl, Nat.le_of_ble_eq_true rfl⟩) [0, 1] [2, 3, 4, 5, 6, 7, 8] [7, 8, 0, 1, 2, 3, 4, 5, 6] rfl rfl rfl rfl (by decide) rfl rfl rfl rfl rfl rfl (Nat.le_of_ble_eq_true rfl) dX7_drawItem_81 ⟨Nat.zero_le _, Nat.zero_le _⟩ ?_
  refine a_aload_n C0 dX7_drawItem_84 rfl 1 rfl ?_
  refine a_iload C0 dX7_drawItem_85 0 rfl ?_
  obtain ⟨f0_15, f1_16, h_17, h⟩ := bd2_e h
  refine a_callVv C0 (wdX7_14 cA q0 q1 q2 q3 q4 q5 q6 q7 q8 q9 q10 q11 q12 q13 f0_15 l0_31 l0_32_10 f1_16 f2 f3 f4 f5 f6 f7 f8) (As := [.int r_9]) (rest := []) (ctX7_lay l D cA q0 q1 q2 q3 q4 q5 q6 q7 q8 q9 q10 q11 q12 q13 r_9 f0_12 l0_31 l0_32_10 f1_13 h_17) (cwV 1 C0.1.2.2.2.2 gX7_drawItem_X7_lay rfl rfl rfl hdX7_lay ⟨Nat.le_of_ble_eq_true rfl, Nat.le_of_ble_eq_true rfl⟩) [0, 1] [2, 3, 4, 5, 6, 7, 8] [7, 8, 0, 1, 2, 3, 4, 5, 6] rfl rfl rfl rfl (by decide) rfl rfl rfl rfl rfl rfl (Nat.le_of_ble_eq_true rfl) dX7_drawItem_87 ⟨Nat.zero_le _, Nat.zero_le _⟩ ?_
  refine a_iconst C0 (0 : Int32) dX7_drawItem_90 (by decide) ?_
  refine a_istore C0 [(6, .int (0 : Int32)), (5, .int r_9), (0, .ref q0), (1, .int a1), (2, .int a2), (4, .int v4)] dX7_drawItem_91 (by decide) rfl ?_
  refine a_lv [2, 3, 4, 5, 1, 0] (lv' := [(0, .ref q0), (1, .int a1), (2, .int a2), (4, .int v4), (5, .int r_9), (6, .int (0 : Int32))]) rfl ?_
  exact bwX7_drawItem_93 C0 N a1 a2 l0_31 N v4 r_9 (0 : Int32) f0_15 l0_32_10 f1_16 f2 f3 f4 f5 f6 f7 f8 h
set_option maxHeartbeats 4000000 in
set_option maxRecDepth 100000 in
theorem bwX7_drawItem_218 {p : Program} {l : Launch} {e : Env} {s : State} {m : MethodId} {args : Array Value} {below : List Frame} {meth : Method} {c : Code} {D : va_G} {A : Nat → Prop} {cA : ClassId} {q0 q1 q2 q3 q4 q5 q6 q7 q8 q9 q10 q11 q12 q13 : Nat} {res : (Nat → Int32) × Int64 × (Nat → Int32) × (Nat → Int32) × (Nat → Int32) × (Nat → Int32) × (Nat → Int32) × (Nat → Int32) × (Nat → Int32) × (Nat → Int32)} (C0 : cx p s m args meth c cX7_drawItem 8 RX7 wsX7_drawItem none D vwCl [(cA, .int)] A) (N : Nat) (a1 : Int32) (a2 : Int32) (l0_31 : Int64) : ∀ (n : Nat) (v4 : Int32) (v5 : Int32) (v6 : Int32) (v7 : Int32) (f0 : Nat → Int32) (l0_32 : Int64) (f1 : Nat → Int32) (f2 : Nat → Int32) (f3 : Nat → Int32) (f4 : Nat → Int32) (f5 : Nat → Int32) (f6 : Nat → Int32) (f7 : Nat → Int32) (f8 : Nat → Int32), bfX7_drawItem_218 N a1 a2 l0_31  n v4 v5 v6 v7 f0 l0_32 f1 f2 f3 f4 f5 f6 f7 f8 = some res → At_ p l e (rmX7_drawItem) s m args below meth c D vwCl A 8 0 0 (Qv_ below args s D vwCl A (wdX7_14 cA q0 q1 q2 q3 q4 q5 q6 q7 q8 q9 q10 q11 q12 q13 res.1 l0_31 res.2.1 res.2.2.1 res.2.2.2.1 res.2.2.2.2.1 res.2.2.2.2.2.1 res.2.2.2.2.2.2.1 res.2.2.2.2.2.2.2.1 res.2.2.2.2.2.2.2.2.1 res.2.2.2.2.2.2.2.2.2)) 218 [(0, .ref q0), (1, .int a1), (2, .int a2), (4, .int v4), (5, .int v5), (6, .int v6), (7, .int v7)] [] (wdX7_14 cA q0 q1 q2 q3 q4 q5 q6 q7 q8 q9 q10 q11 q12 q13 f0 l0_31 l0_32 f1 f2 f3 f4 f5 f6 f7 f8) := by
  intro n
  induction n with
  | zero => intro v4 v5 v6 v7 f0 l0_32 f1 f2 f3 f4 f5 f6 f7 f8 h; cases h
  | succ n hrc218 =>
    intro v4 v5 v6 v7 f0 l0_32 f1 f2 f3 f4 f5 f6 f7 f8 h
    replace h : bFX7_drawItem_218 N a1 a2 l0_31  (bfX7_drawItem_218 N a1 a2 l0_31  n) v4 v5 v6 v7 f0 l0_32 f1 f2 f3 f4 f5 f6 f7 f8 = some res := h
    generalize bfX7_drawItem_218 N a1 a2 l0_31  n = rc218 at h hrc218
    unfold bFX7_drawItem_218 at h
    refine a_iload C0 dX7_drawItem_218 6 rfl ?_
    refine a_iload C0 dX7_drawItem_220 3 rfl ?_
    refine a_iconst C0 (1 : Int32) dX7_drawItem_222 (by decide) ?_
    refine a_isub C0 dX7_drawItem_223 ?_
    refine a_iload C0 dX7_drawItem_224 5 rfl ?_
    refine a_imul C0 dX7_drawItem_226 ?_
    refine a_icmp_ge C0 253 dX7_drawItem_227 (by decide) (fun c_18 => ?_) (fun c_18 => ?_)
    · have h := it_ c_18 h
      refine a_goto C0 376 dX7_drawItem_253 (by decide) ?_
      obtain rfl := Option.some.inj h
      exact a_vret C0 dX7_drawItem_376 rfl
    · have h := ie_ c_18 h
      refine a_aload_n C0 dX7_drawItem_230 rfl 0 rfl ?_
      refine a_aload_n C0 dX7_drawItem_231 rfl 0 rfl ?_
      refine a_get C0 inX7_drawItem_X7 0 rfl rfl 9 (by decide) lkX7_drawItem_31 (fun _ h9 => h9) (.ref q8) rfl dX7_drawItem_232 ?_
      refine a_iload C0 dX7_drawItem_235 4 rfl ?_
      refine a_iload C0 dX7_drawItem_237 6 rfl ?_
      refine a_iload C0 dX7_drawItem_239 5 rfl ?_
      obtain ⟨g_19, h⟩ := gz_e h
      refine a_irem C0 dX7_drawItem_241 (of_decide_eq_true g_19) ?_
      refine a_iadd C0 dX7_drawItem_242 ?_
      obtain ⟨g_20, h⟩ := gi_e h
      refine a_iald C0 8 0 rfl rfl g_20 dX7_drawItem_243 ?_
      obtain ⟨f3_21, f8_22, h_23, h⟩ := bd2_e h
      refine a_callVv C0 (wdX7_14 cA q0 q1 q2 q3 q4 q5 q6 q7 q8 q9 q10 q11 q12 q13 f0 l0_31 l0_32 f1 f2 f3_21 f4 f5 f6 f7 f8_22) (As := [.int (f8 (v5 + (v7 - v7 / v6 * v6)).toNatClampNeg)]) (rest := []) (ctX7_gives l D cA q0 q1 q2 q3 q4 q5 q6 q7 q8 q9 q10 q11 q12 q13 (f8 (v5 + (v7 - v7 / v6 * v6)).toNatClampNeg) f0 l0_31 l0_32 f2 f3 f8 h_23) (cwV 1 C0.1.2.2.2.2 gX7_drawItem_X7_gives rfl rfl rfl hdX7_gives ⟨Nat.le_of_ble_eq_true rfl, Nat.le_of_ble_eq_true rfl⟩) [0, 2, 3, 8] [1, 4, 5, 6, 7] [5, 0, 6, 7, 1, 2, 3, 4, 8] rfl rfl rfl rfl (by decide) rfl rfl rfl rfl rfl rfl (Nat.le_of_ble_eq_true rfl) dX7_drawItem_244 ⟨Nat.zero_le _, Nat.zero_le _⟩ ?_
      obtain ⟨x_24, ex_24, h⟩ := lt_e h
      refine a_iinc C0 x_24 [(7, .int x_24), (0, .ref q0), (1, .int a1), (2, .int a2), (4, .int v4), (5, .int v5), (6, .int v6)] dX7_drawItem_247 6 rfl (by subst ex_24; rfl) (by decide) rfl ?_
      refine a_goto C0 218 dX7_drawItem_250 (by decide) ?_
      refine a_lv [1, 2, 3, 4, 5, 6, 0] (lv' := [(0, .ref q0), (1, .int a1), (2, .int a2), (4, .int v4), (5, .int v5), (6, .int v6), (7, .int x_24)]) rfl ?_
      exact hrc218 v4 v5 v6 x_24 f0 l0_32 f1 f2 f3_21 f4 f5 f6 f7 f8_22 h
set_option maxHeartbeats 4000000 in
set_option maxRecDepth 100000 in
theorem bwX7_drawItem_328 {p : Program} {l : Launch} {e : Env} {s : State} {m : MethodId} {args : Array Value} {below : List Frame} {meth : Method} {c : Code} {D : va_G} {A : Nat → Prop} {cA : ClassId} {q0 q1 q2 q3 q4 q5 q6 q7 q8 q9 q10 q11 q12 q13 : Nat} {res : (Nat → Int32) × Int64 × (Nat → Int32) × (Nat → Int32) × (Nat → Int32) × (Nat → Int32) × (Nat → Int32) × (Nat → Int32) × (Nat → Int32) × (Nat → Int32)} (C0 : cx p s m args meth c cX7_drawItem 8 RX7 wsX7_drawItem none D vwCl [(cA, .int)] A) (N : Nat) (a1 : Int32) (a2 : Int32) (l0_31 : Int64) (v3 : Int32) (f0 : Nat → Int32) (l0_32 : Int64) (f1 : Nat → Int32) (f2 : Nat → Int32) (f3 : Nat → Int32) (f4 : Nat → Int32) (f5 : Nat → Int32) (f6 : Nat → Int32) (f7 : Nat → Int32) (f8 : Nat → Int32) (h : bfX7_drawItem_328 N a1 a2 l0_31  v3 f0 l0_32 f1 f2 f3 f4 f5 f6 f7 f8 = some res) : At_ p l e (rmX7_drawItem) s m args below meth c D vwCl A 8 0 0 (Qv_ below args s D vwCl A (wdX7_14 cA q0 q1 q2 q3 q4 q5 q6 q7 q8 q9 q10 q11 q12 q13 res.1 l0_31 res.2.1 res.2.2.1 res.2.2.2.1 res.2.2.2.2.1 res.2.2.2.2.2.1 res.2.2.2.2.2.2.1 res.2.2.2.2.2.2.2.1 res.2.2.2.2.2.2.2.2.1 res.2.2.2.2.2.2.2.2.2)) 328 [(0, .ref q0), (1, .int a1), (2, .int a2), (3, .int v3)] [] (wdX7_14 cA q0 q1 q2 q3 q4 q5 q6 q7 q8 q9 q10 q11 q12 q13 f0 l0_31 l0_32 f1 f2 f3 f4 f5 f6 f7 f8) := by
  unfold bfX7_drawItem_328 at h
  refine a_iload_n C0 dX7_drawItem_328 rfl 3 rfl ?_
  refine a_bipush C0 (7 : Int32) dX7_drawItem_329 (by decide) ?_
  refine a_icmp_ne C0 371 dX7_drawItem_331 (by decide) (fun c_25 => ?_) (fun c_25 => ?_)
  · have h := ie_ c_25 h
    refine a_aload_n C0 dX7_drawItem_371 rfl 0 rfl ?_
    refine a_iload_n C0 dX7_drawItem_372 rfl 1 rfl ?_
    obtain ⟨f0_26, l0_32_27, f1_28, f3_29, f8_30, h_31, h⟩ := bd5_e h
    refine a_callVv C0 (wdX7_14 cA q0 q1 q2 q3 q4 q5 q6 q7 q8 q9 q10 q11 q12 q13 f0_26 l0_31 l0_32_27 f1_28 f2 f3_29 f4 f5 f6 f7 f8_30) (As := [.int a1]) (rest := []) (ctX7_drawRaw l D cA q0 q1 q2 q3 q4 q5 q6 q7 q8 q9 q10 q11 q12 q13 N a1 f0 l0_31 l0_32 f1 f2 f3 f8 h_31) (cwV 1 C0.1.2.2.2.2 gX7_drawItem_X7_drawRaw rfl rfl rfl hdX7_drawRaw ⟨Nat.le_of_ble_eq_true rfl, Nat.le_of_ble_eq_true rfl⟩) [0, 1, 2, 3, 8] [4, 5, 6, 7] [4, 5, 6, 7, 0, 1, 2, 3, 8] rfl rfl rfl rfl (by decide) rfl rfl rfl rfl rfl rfl (Nat.le_of_ble_eq_true rfl) dX7_drawItem_373 ⟨Nat.zero_le _, Nat.zero_le _⟩ ?_
    obtain rfl := Option.some.inj h
    exact a_vret C0 dX7_drawItem_376 rfl
  · have h := it_ c_25 h
    refine a_iconst C0 (1 : Int32) dX7_drawItem_334 (by decide) ?_
    refine a_aload_n C0 dX7_drawItem_335 rfl 0 rfl ?_
    refine a_iconst C0 (5 : Int32) dX7_drawItem_336 (by decide) ?_
    obtain ⟨r_32, l0_32_33, h_34, h⟩ := bd2_e h
    refine a_callVi C0 (wdX7_14 cA q0 q1 q2 q3 q4 q5 q6 q7 q8 q9 q10 q11 q12 q13 f0 l0_31 l0_32_33 f1 f2 f3 f4 f5 f6 f7 f8) (As := [.int (5 : Int32)]) (rest := [.int (1 : Int32)]) (ctX7_pick l D cA q0 q1 q2 q3 q4 q5 q6 q7 q8 q9 q10 q11 q12 q13 (5 : Int32) f0 l0_31 l0_32 h_34) (cwV 1 C0.1.2.2.2.2 gX7_drawItem_X7_pick rfl rfl rfl hdX7_pick ⟨Nat.le_of_ble_eq_true rfl, Nat.le_of_ble_eq_true rfl⟩) [0] [1, 2, 3, 4, 5, 6, 7, 8] [8, 0, 1, 2, 3, 4, 5, 6, 7] rfl rfl rfl rfl (by decide) rfl rfl rfl rfl rfl rfl (Nat.le_of_ble_eq_true rfl) dX7_drawItem_337 ⟨Nat.zero_le _, Nat.zero_le _⟩ ?_
    refine a_iadd C0 dX7_drawItem_340 ?_
    obtain ⟨x_35, ex_35, h⟩ := lt_e h
    refine a_topi ex_35 ?_
    refine a_istore C0 [(4, .int x_35), (0, .ref q0), (1, .int a1), (2, .int a2), (3, .int v3)] dX7_drawItem_341 (by decide) rfl ?_
    refine a_aload_n C0 dX7_drawItem_343 rfl 1 rfl ?_
    refine a_sipush C0 (255 : Int32) dX7_drawItem_344 (by decide) ?_
    obtain ⟨f0_36, f1_37, h_38, h⟩ := bd2_e h
    refine a_callVv C0 (wdX7_14 cA q0 q1 q2 q3 q4 q5 q6 q7 q8 q9 q10 q11 q12 q13 f0_36 l0_31 l0_32_33 f1_37 f2 f3 f4 f5 f6 f7 f8) (As := [.int (255 : Int32)]) (rest := []) (ctX7_lay l D cA q0 q1 q2 q3 q4 q5 q6 q7 q8 q9 q10 q11 q12 q13 (255 : Int32) f0 l0_31 l0_32_33 f1 h_38) (cwV 1 C0.1.2.2.2.2 gX7_drawItem_X7_lay rfl rfl rfl hdX7_lay ⟨Nat.le_of_ble_eq_true rfl, Nat.le_of_ble_eq_true rfl⟩) [0, 1] [2, 3, 4, 5, 6, 7, 8] [7, 8, 0, 1, 2, 3, 4, 5, 6] rfl rfl rfl rfl (by decide) rfl rfl rfl rfl rfl rfl (Nat.le_of_ble_eq_true rfl) dX7_drawItem_347 ⟨Nat.zero_le _, Nat.zero_le _⟩ ?_
    refine a_aload_n C0 dX7_drawItem_350 rfl 1 rfl ?_
    refine a_iconst C0 (0 : Int32) dX7_drawItem_351 (by decide) ?_
    obtain ⟨f0_39, f1_40, h_41, h⟩ := bd2_e h
    refine a_callVv C0 (wdX7_14 cA q0 q1 q2 q3 q4 q5 q6 q7 q8 q9 q10 q11 q12 q13 f0_39 l0_31 l0_32_33 f1_40 f2 f3 f4 f5 f6 f7 f8) (As := [.int (0 : Int32)]) (rest := []) (ctX7_lay l D cA q0 q1 q2 q3 q4 q5 q6 q7 q8 q9 q10 q11 q12 q13 (0 : Int32) f0_36 l0_31 l0_32_33 f1_37 h_41) (cwV 1 C0.1.2.2.2.2 gX7_drawItem_X7_lay rfl rfl rfl hdX7_lay ⟨Nat.le_of_ble_eq_true rfl, Nat.le_of_ble_eq_true rfl⟩) [0, 1] [2, 3, 4, 5, 6, 7, 8] [7, 8, 0, 1, 2, 3, 4, 5, 6] rfl rfl rfl rfl (by decide) rfl rfl rfl rfl rfl rfl (Nat.le_of_ble_eq_true rfl) dX7_drawItem_352 ⟨Nat.zero_le _, Nat.zero_le _⟩ ?_
    refine a_aload_n C0 dX7_drawItem_355 rfl 1 rfl ?_
    refine a_iload C0 dX7_drawItem_356 0 rfl ?_
    obtain ⟨f0_42, f1_43, h_44, h⟩ := bd2_e h
    refine a_callVv C0 (wdX7_14 cA q0 q1 q2 q3 q4 q5 q6 q7 q8 q9 q10 q11 q12 q13 f0_42 l0_31 l0_32_33 f1_43 f2 f3 f4 f5 f6 f7 f8) (As := [.int x_35]) (rest := []) (ctX7_lay l D cA q0 q1 q2 q3 q4 q5 q6 q7 q8 q9 q10 q11 q12 q13 x_35 f0_39 l0_31 l0_32_33 f1_40 h_44) (cwV 1 C0.1.2.2.2.2 gX7_drawItem_X7_lay rfl rfl rfl hdX7_lay ⟨Nat.le_of_ble_eq_true rfl, Nat.le_of_ble_eq_true rfl⟩) [0, 1] [2, 3, 4, 5, 6, 7, 8] [7, 8, 0, 1, 2, 3, 4, 5, 6] rfl rfl rfl rfl (by decide) rfl rfl rfl rfl rfl rfl (Nat.le_of_ble_eq_true rfl) dX7_drawItem_358 ⟨Nat.zero_le _, Nat.zero_le _⟩ ?_
    refine a_aload_n C0 dX7_drawItem_361 rfl 1 rfl ?_
    refine a_iload C0 dX7_drawItem_362 0 rfl ?_
    refine a_iload_n C0 dX7_drawItem_364 rfl 2 rfl ?_
    obtain ⟨f0_45, l0_32_46, f1_47, f3_48, f8_49, h_50, h⟩ := bd5_e h
    refine a_callVv C0 (wdX7_14 cA q0 q1 q2 q3 q4 q5 q6 q7 q8 q9 q10 q11 q12 q13 f0_45 l0_31 l0_32_46 f1_47 f2 f3_48 f4 f5 f6 f7 f8_49) (As := [.int x_35, .int a1]) (rest := []) (ctX7_drawBytes l D cA q0 q1 q2 q3 q4 q5 q6 q7 q8 q9 q10 q11 q12 q13 N x_35 a1 f0_42 l0_31 l0_32_33 f1_43 f2 f3 f8 h_50) (cwV 2 C0.1.2.2.2.2 gX7_drawItem_X7_drawBytes rfl rfl rfl hdX7_drawBytes ⟨Nat.le_of_ble_eq_true rfl, Nat.le_of_ble_eq_true rfl⟩) [0, 1, 2, 3, 8] [4, 5, 6, 7] [4, 5, 6, 7, 0, 1, 2, 3, 8] rfl rfl rfl rfl (by decide) rfl rfl rfl rfl rfl rfl (Nat.le_of_ble_eq_true rfl) dX7_drawItem_365 ⟨Nat.zero_le _, Nat.zero_le _⟩ ?_
    refine a_goto C0 376 dX7_drawItem_368 (by decide) ?_
    obtain rfl := Option.some.inj h
    exact a_vret C0 dX7_drawItem_376 rfl
set_option maxHeartbeats 4000000 in
set_option maxRecDepth 100000 in
theorem bwX7_drawItem_142 {p : Program} {l : Launch} {e : Env} {s : State} {m : MethodId} {args : Array Value} {below : List Frame} {meth : Method} {c : Code} {D : va_G} {A : Nat → Prop} {cA : ClassId} {q0 q1 q2 q3 q4 q5 q6 q7 q8 q9 q10 q11 q12 q13 : Nat} {res : (Nat → Int32) × Int64 × (Nat → Int32) × (Nat → Int32) × (Nat → Int32) × (Nat → Int32) × (Nat → Int32) × (Nat → Int32) × (Nat → Int32) × (Nat → Int32)} (C0 : cx p s m args meth c cX7_drawItem 8 RX7 wsX7_drawItem none D vwCl [(cA, .int)] A) (N : Nat) (a1 : Int32) (a2 : Int32) (l0_31 : Int64) (v3 : Int32) (f0 : Nat → Int32) (l0_32 : Int64) (f1 : Nat → Int32) (f2 : Nat → Int32) (f3 : Nat → Int32) (f4 : Nat → Int32) (f5 : Nat → Int32) (f6 : Nat → Int32) (f7 : Nat → Int32) (f8 : Nat → Int32) (h : bfX7_drawItem_142 N a1 a2 l0_31  v3 f0 l0_32 f1 f2 f3 f4 f5 f6 f7 f8 = some res) : At_ p l e (rmX7_drawItem) s m args below meth c D vwCl A 8 0 0 (Qv_ below args s D vwCl A (wdX7_14 cA q0 q1 q2 q3 q4 q5 q6 q7 q8 q9 q10 q11 q12 q13 res.1 l0_31 res.2.1 res.2.2.1 res.2.2.2.1 res.2.2.2.2.1 res.2.2.2.2.2.1 res.2.2.2.2.2.2.1 res.2.2.2.2.2.2.2.1 res.2.2.2.2.2.2.2.2.1 res.2.2.2.2.2.2.2.2.2)) 142 [(0, .ref q0), (1, .int a1), (2, .int a2), (3, .int v3)] [] (wdX7_14 cA q0 q1 q2 q3 q4 q5 q6 q7 q8 q9 q10 q11 q12 q13 f0 l0_31 l0_32 f1 f2 f3 f4 f5 f6 f7 f8) := by
  unfold bfX7_drawItem_142 at h
  refine a_iload_n C0 dX7_drawItem_142 rfl 3 rfl ?_
  refine a_iconst C0 (5 : Int32) dX7_drawItem_143 (by decide) ?_
  refine a_icmp_ne C0 256 dX7_drawItem_144 (by decide) (fun c_51 => ?_) (fun c_51 => ?_)
  · have h := ie_ c_51 h
    refine a_iload_n C0 dX7_drawItem_256 rfl 3 rfl ?_
    refine a_bipush C0 (6 : Int32) dX7_drawItem_257 (by decide) ?_
    refine a_icmp_ne C0 328 dX7_drawItem_259 (by decide) (fun c_52 => ?_) (fun c_52 => ?_)
    · have h := ie_ c_52 h
      exact bwX7_drawItem_328 C0 N a1 a2 l0_31 v3 f0 l0_32 f1 f2 f3 f4 f5 f6 f7 f8 h
    · have h := it_ c_52 h
      refine a_aload_n C0 dX7_drawItem_262 rfl 0 rfl ?_
      refine a_get C0 inX7_drawItem_X7 0 rfl rfl 2 (by decide) lkX7_drawItem_66 (fun _ h9 => h9) (.int (f0 2)) rfl dX7_drawItem_263 ?_
      refine a_iconst C0 (3 : Int32) dX7_drawItem_266 (by decide) ?_
      refine a_icmp_ge C0 328 dX7_drawItem_267 (by decide) (fun c_53 => ?_) (fun c_53 => ?_)
      · have h := it_ c_53 h
        exact bwX7_drawItem_328 C0 N a1 a2 l0_31 v3 f0 l0_32 f1 f2 f3 f4 f5 f6 f7 f8 h
      · have h := ie_ c_53 h
        refine a_aload_n C0 dX7_drawItem_270 rfl 0 rfl ?_
        refine a_sipush C0 (192 : Int32) dX7_drawItem_271 (by decide) ?_
        obtain ⟨f0_54, f1_55, h_56, h⟩ := bd2_e h
        refine a_callVv C0 (wdX7_14 cA q0 q1 q2 q3 q4 q5 q6 q7 q8 q9 q10 q11 q12 q13 f0_54 l0_31 l0_32 f1_55 f2 f3 f4 f5 f6 f7 f8) (As := [.int (192 : Int32)]) (rest := []) (ctX7_lay l D cA q0 q1 q2 q3 q4 q5 q6 q7 q8 q9 q10 q11 q12 q13 (192 : Int32) f0 l0_31 l0_32 f1 h_56) (cwV 1 C0.1.2.2.2.2 gX7_drawItem_X7_lay rfl rfl rfl hdX7_lay ⟨Nat.le_of_ble_eq_true rfl, Nat.le_of_ble_eq_true rfl⟩) [0, 1] [2, 3, 4, 5, 6, 7, 8] [7, 8, 0, 1, 2, 3, 4, 5, 6] rfl rfl rfl rfl (by decide) rfl rfl rfl rfl rfl rfl (Nat.le_of_ble_eq_true rfl) dX7_drawItem_274 ⟨Nat.zero_le _, Nat.zero_le _⟩ ?_
        refine a_aload_n C0 dX7_drawItem_277 rfl 0 rfl ?_
        refine a_iconst C0 (0 : Int32) dX7_drawItem_278 (by decide) ?_
        obtain ⟨f0_57, f1_58, h_59, h⟩ := bd2_e h
        refine a_callVv C0 (wdX7_14 cA q0 q1 q2 q3 q4 q5 q6 q7 q8 q9 q10 q11 q12 q13 f0_57 l0_31 l0_32 f1_58 f2 f3 f4 f5 f6 f7 f8) (As := [.int (0 : Int32)]) (rest := []) (ctX7_lay l D cA q0 q1 q2 q3 q4 q5 q6 q7 q8 q9 q10 q11 q12 q13 (0 : Int32) f0_54 l0_31 l0_32 f1_55 h_59) (cwV 1 C0.1.2.2.2.2 gX7_drawItem_X7_lay rfl rfl rfl hdX7_lay ⟨Nat.le_of_ble_eq_true rfl, Nat.le_of_ble_eq_true rfl⟩) [0, 1] [2, 3, 4, 5, 6, 7, 8] [7, 8, 0, 1, 2, 3, 4, 5, 6] rfl rfl rfl rfl (by decide) rfl rfl rfl rfl rfl rfl (Nat.le_of_ble_eq_true rfl) dX7_drawItem_279 ⟨Nat.zero_le _, Nat.zero_le _⟩ ?_
        refine a_aload_n C0 dX7_drawItem_282 rfl 0 rfl ?_
        refine a_dup C0 dX7_drawItem_283 rfl ?_
        refine a_get C0 inX7_drawItem_X7 0 rfl rfl 2 (by decide) lkX7_drawItem_66 (fun _ h9 => h9) (.int (f0_57 2)) rfl dX7_drawItem_284 ?_
        refine a_iconst C0 (1 : Int32) dX7_drawItem_287 (by decide) ?_
        refine a_iadd C0 dX7_drawItem_288 ?_
        obtain ⟨f0_60, ef0_60, h⟩ := lt_e h
        refine a_put C0 inX7_drawItem_X7 tyX7 tyX7_ok nmX7 0 rfl rfl 2 (by decide) lkX7_drawItem_66 (fun _ h9 => h9) rfl (ty := .int) (v := .int ((f0_57 2) + (1 : Int32))) (by decide +kernel) rfl rfl (Nat.le_of_ble_eq_true rfl) dX7_drawItem_289 (wdX7_14 cA q0 q1 q2 q3 q4 q5 q6 q7 q8 q9 q10 q11 q12 q13 f0_60 l0_31 l0_32 f1_58 f2 f3 f4 f5 f6 f7 f8) (by subst ef0_60; rfl) ?_
        refine a_aload_n C0 dX7_drawItem_292 rfl 0 rfl ?_
        refine a_iconst C0 (0 : Int32) dX7_drawItem_293 (by decide) ?_
        refine a_aload_n C0 dX7_drawItem_294 rfl 0 rfl ?_
        refine a_get C0 inX7_drawItem_X7 0 rfl rfl 1 (by decide) lkX7_drawItem_53 (fun _ h9 => h9) (.int (f0_60 1)) rfl dX7_drawItem_295 ?_
        refine a_iconst C0 (2 : Int32) dX7_drawItem_298 (by decide) ?_
        refine a_isub C0 dX7_drawItem_299 ?_
        refine a_aload_n C0 dX7_drawItem_300 rfl 0 rfl ?_
        refine a_get C0 inX7_drawItem_X7 0 rfl rfl 1 (by decide) lkX7_drawItem_53 (fun _ h9 => h9) (.int (f0_60 1)) rfl dX7_drawItem_301 ?_
        refine a_iconst C0 (1 : Int32) dX7_drawItem_304 (by decide) ?_
        refine a_isub C0 dX7_drawItem_305 ?_
        obtain ⟨f0_61, f2_62, f3_63, f4_64, f5_65, f6_66, f7_67, h_68, h⟩ := bd7_e h
        refine a_callVv C0 (wdX7_14 cA q0 q1 q2 q3 q4 q5 q6 q7 q8 q9 q10 q11 q12 q13 f0_61 l0_31 l0_32 f1_58 f2_62 f3_63 f4_64 f5_65 f6_66 f7_67 f8) (As := [.int (0 : Int32), .int ((f0_60 1) - (2 : Int32)), .int ((f0_60 1) - (1 : Int32))]) (rest := []) (ctX7_opens l D cA q0 q1 q2 q3 q4 q5 q6 q7 q8 q9 q10 q11 q12 q13 (0 : Int32) ((f0_60 1) - (2 : Int32)) ((f0_60 1) - (1 : Int32)) f0_60 l0_31 l0_32 f2 f3 f4 f5 f6 f7 h_68) (cwV 3 C0.1.2.2.2.2 gX7_drawItem_X7_opens rfl rfl rfl hdX7_opens ⟨Nat.le_of_ble_eq_true rfl, Nat.le_of_ble_eq_true rfl⟩) [0, 2, 3, 4, 5, 6, 7] [1, 8] [2, 0, 3, 4, 5, 6, 7, 8, 1] rfl rfl rfl rfl (by decide) rfl rfl rfl rfl rfl rfl (Nat.le_of_ble_eq_true rfl) dX7_drawItem_306 ⟨Nat.zero_le _, Nat.zero_le _⟩ ?_
        refine a_aload_n C0 dX7_drawItem_309 rfl 0 rfl ?_
        refine a_get C0 inX7_drawItem_X7 0 rfl rfl 5 (by decide) lkX7_drawItem_19 (fun _ h9 => h9) (.ref q4) rfl dX7_drawItem_310 ?_
        refine a_aload_n C0 dX7_drawItem_313 rfl 0 rfl ?_
        refine a_get C0 inX7_drawItem_X7 0 rfl rfl 2 (by decide) lkX7_drawItem_66 (fun _ h9 => h9) (.int (f0_61 2)) rfl dX7_drawItem_314 ?_
        refine a_iconst C0 (1 : Int32) dX7_drawItem_317 (by decide) ?_
        refine a_aload_n C0 dX7_drawItem_318 rfl 0 rfl ?_
        refine a_iload_n C0 dX7_drawItem_319 rfl 2 rfl ?_
        obtain ⟨r_69, l0_32_70, h_71, h⟩ := bd2_e h
        refine a_callVi C0 (wdX7_14 cA q0 q1 q2 q3 q4 q5 q6 q7 q8 q9 q10 q11 q12 q13 f0_61 l0_31 l0_32_70 f1_58 f2_62 f3_63 f4_64 f5_65 f6_66 f7_67 f8) (As := [.int a2]) (rest := [.int (1 : Int32), .int (f0_61 2), .ref q4]) (ctX7_pick l D cA q0 q1 q2 q3 q4 q5 q6 q7 q8 q9 q10 q11 q12 q13 a2 f0_61 l0_31 l0_32 h_71) (cwV 1 C0.1.2.2.2.2 gX7_drawItem_X7_pick rfl rfl rfl hdX7_pick ⟨Nat.le_of_ble_eq_true rfl, Nat.le_of_ble_eq_true rfl⟩) [0] [1, 2, 3, 4, 5, 6, 7, 8] [8, 0, 1, 2, 3, 4, 5, 6, 7] rfl rfl rfl rfl (by decide) rfl rfl rfl rfl rfl rfl (Nat.le_of_ble_eq_true rfl) dX7_drawItem_320 ⟨Nat.zero_le _, Nat.zero_le _⟩ ?_
        refine a_iadd C0 dX7_drawItem_323 ?_
        obtain ⟨g_72, h⟩ := gi_e h
        obtain ⟨f4_73, ef4_73, h⟩ := lt_e h
        refine a_iast C0 4 0 rfl rfl g_72 dX7_drawItem_324 (wdX7_14 cA q0 q1 q2 q3 q4 q5 q6 q7 q8 q9 q10 q11 q12 q13 f0_61 l0_31 l0_32_70 f1_58 f2_62 f3_63 f4_73 f5_65 f6_66 f7_67 f8) (by subst ef4_73; rfl) ?_
        refine a_goto C0 376 dX7_drawItem_325 (by decide) ?_
        obtain rfl := Option.some.inj h
        exact a_vret C0 dX7_drawItem_376 rfl
  · have h := it_ c_51 h
    refine a_iconst C0 (2 : Int32) dX7_drawItem_147 (by decide) ?_
    refine a_aload_n C0 dX7_drawItem_148 rfl 0 rfl ?_
    refine a_iconst C0 (4 : Int32) dX7_drawItem_149 (by decide) ?_
    obtain ⟨r_74, l0_32_75, h_76, h⟩ := bd2_e h
    refine a_callVi C0 (wdX7_14 cA q0 q1 q2 q3 q4 q5 q6 q7 q8 q9 q10 q11 q12 q13 f0 l0_31 l0_32_75 f1 f2 f3 f4 f5 f6 f7 f8) (As := [.int (4 : Int32)]) (rest := [.int (2 : Int32)]) (ctX7_pick l D cA q0 q1 q2 q3 q4 q5 q6 q7 q8 q9 q10 q11 q12 q13 (4 : Int32) f0 l0_31 l0_32 h_76) (cwV 1 C0.1.2.2.2.2 gX7_drawItem_X7_pick rfl rfl rfl hdX7_pick ⟨Nat.le_of_ble_eq_true rfl, Nat.le_of_ble_eq_true rfl⟩) [0] [1, 2, 3, 4, 5, 6, 7, 8] [8, 0, 1, 2, 3, 4, 5, 6, 7] rfl rfl rfl rfl (by decide) rfl rfl rfl rfl rfl rfl (Nat.le_of_ble_eq_true rfl) dX7_drawItem_150 ⟨Nat.zero_le _, Nat.zero_le _⟩ ?_
    refine a_iadd C0 dX7_drawItem_153 ?_
    obtain ⟨x_77, ex_77, h⟩ := lt_e h
    refine a_topi ex_77 ?_
    refine a_istore C0 [(4, .int x_77), (0, .ref q0), (1, .int a1), (2, .int a2), (3, .int v3)] dX7_drawItem_154 (by decide) rfl ?_
    refine a_aload_n C0 dX7_drawItem_156 rfl 1 rfl ?_
    refine a_get C0 inX7_drawItem_X7 0 rfl rfl 3 (by decide) lkX7_drawItem_13 (fun _ h9 => h9) (.ref q2) rfl dX7_drawItem_157 ?_
    refine a_aload_n C0 dX7_drawItem_160 rfl 1 rfl ?_
    refine a_get C0 inX7_drawItem_X7 0 rfl rfl 2 (by decide) lkX7_drawItem_66 (fun _ h9 => h9) (.int (f0 2)) rfl dX7_drawItem_161 ?_
    obtain ⟨g_78, h⟩ := gi_e h
    refine a_iald C0 2 0 rfl rfl g_78 dX7_drawItem_164 ?_
    refine a_aload_n C0 dX7_drawItem_165 rfl 1 rfl ?_
    refine a_get C0 inX7_drawItem_X7 0 rfl rfl 4 (by decide) lkX7_drawItem_16 (fun _ h9 => h9) (.ref q3) rfl dX7_drawItem_166 ?_
    refine a_aload_n C0 dX7_drawItem_169 rfl 1 rfl ?_
    refine a_get C0 inX7_drawItem_X7 0 rfl rfl 2 (by decide) lkX7_drawItem_66 (fun _ h9 => h9) (.int (f0 2)) rfl dX7_drawItem_170 ?_
    obtain ⟨g_79, h⟩ := gi_e h
    refine a_iald C0 3 0 rfl rfl g_79 dX7_drawItem_173 ?_
    refine a_iadd C0 dX7_drawItem_174 ?_
    obtain ⟨x_80, ex_80, h⟩ := lt_e h
    refine a_topi ex_80 ?_
    refine a_istore C0 [(5, .int x_80), (4, .int x_77), (0, .ref q0), (1, .int a1), (2, .int a2), (3, .int v3)] dX7_drawItem_175 (by decide) rfl ?_
    refine a_aload_n C0 dX7_drawItem_177 rfl 2 rfl ?_
    refine a_bipush C0 (126 : Int32) dX7_drawItem_178 (by decide) ?_
    refine a_iload C0 dX7_drawItem_180 1 rfl ?_
    refine a_iadd C0 dX7_drawItem_182 ?_
    obtain ⟨f0_81, f1_82, h_83, h⟩ := bd2_e h
    refine a_callVv C0 (wdX7_14 cA q0 q1 q2 q3 q4 q5 q6 q7 q8 q9 q10 q11 q12 q13 f0_81 l0_31 l0_32_75 f1_82 f2 f3 f4 f5 f6 f7 f8) (As := [.int ((126 : Int32) + x_77)]) (rest := []) (ctX7_lay l D cA q0 q1 q2 q3 q4 q5 q6 q7 q8 q9 q10 q11 q12 q13 ((126 : Int32) + x_77) f0 l0_31 l0_32_75 f1 h_83) (cwV 1 C0.1.2.2.2.2 gX7_drawItem_X7_lay rfl rfl rfl hdX7_lay ⟨Nat.le_of_ble_eq_true rfl, Nat.le_of_ble_eq_true rfl⟩) [0, 1] [2, 3, 4, 5, 6, 7, 8] [7, 8, 0, 1, 2, 3, 4, 5, 6] rfl rfl rfl rfl (by decide) rfl rfl rfl rfl rfl rfl (Nat.le_of_ble_eq_true rfl) dX7_drawItem_183 ⟨Nat.zero_le _, Nat.zero_le _⟩ ?_
    refine a_aload_n C0 dX7_drawItem_186 rfl 2 rfl ?_
    refine a_iload_n C0 dX7_drawItem_187 rfl 3 rfl ?_
    obtain ⟨f0_84, l0_32_85, f1_86, f3_87, f8_88, h_89, h⟩ := bd5_e h
    refine a_callVv C0 (wdX7_14 cA q0 q1 q2 q3 q4 q5 q6 q7 q8 q9 q10 q11 q12 q13 f0_84 l0_31 l0_32_85 f1_86 f2 f3_87 f4 f5 f6 f7 f8_88) (As := [.int a1]) (rest := []) (ctX7_drawRaw l D cA q0 q1 q2 q3 q4 q5 q6 q7 q8 q9 q10 q11 q12 q13 N a1 f0_81 l0_31 l0_32_75 f1_82 f2 f3 f8 h_89) (cwV 1 C0.1.2.2.2.2 gX7_drawItem_X7_drawRaw rfl rfl rfl hdX7_drawRaw ⟨Nat.le_of_ble_eq_true rfl, Nat.le_of_ble_eq_true rfl⟩) [0, 1, 2, 3, 8] [4, 5, 6, 7] [4, 5, 6, 7, 0, 1, 2, 3, 8] rfl rfl rfl rfl (by decide) rfl rfl rfl rfl rfl rfl (Nat.le_of_ble_eq_true rfl) dX7_drawItem_188 ⟨Nat.zero_le _, Nat.zero_le _⟩ ?_
    refine a_aload_n C0 dX7_drawItem_191 rfl 2 rfl ?_
    refine a_get C0 inX7_drawItem_X7 0 rfl rfl 3 (by decide) lkX7_drawItem_13 (fun _ h9 => h9) (.ref q2) rfl dX7_drawItem_192 ?_
    refine a_aload_n C0 dX7_drawItem_195 rfl 2 rfl ?_
    refine a_get C0 inX7_drawItem_X7 0 rfl rfl 2 (by decide) lkX7_drawItem_66 (fun _ h9 => h9) (.int (f0_84 2)) rfl dX7_drawItem_196 ?_
    obtain ⟨g_90, h⟩ := gi_e h
    refine a_iald C0 2 0 rfl rfl g_90 dX7_drawItem_199 ?_
    refine a_aload_n C0 dX7_drawItem_200 rfl 2 rfl ?_
    refine a_get C0 inX7_drawItem_X7 0 rfl rfl 4 (by decide) lkX7_drawItem_16 (fun _ h9 => h9) (.ref q3) rfl dX7_drawItem_201 ?_
    refine a_aload_n C0 dX7_drawItem_204 rfl 2 rfl ?_
    refine a_get C0 inX7_drawItem_X7 0 rfl rfl 2 (by decide) lkX7_drawItem_66 (fun _ h9 => h9) (.int (f0_84 2)) rfl dX7_drawItem_205 ?_
    obtain ⟨g_91, h⟩ := gi_e h
    refine a_iald C0 3 0 rfl rfl g_91 dX7_drawItem_208 ?_
    refine a_iadd C0 dX7_drawItem_209 ?_
    refine a_iload C0 dX7_drawItem_210 0 rfl ?_
    refine a_isub C0 dX7_drawItem_212 ?_
    obtain ⟨x_92, ex_92, h⟩ := lt_e h
    refine a_topi ex_92 ?_
    refine a_istore C0 [(6, .int x_92), (5, .int x_80), (4, .int x_77), (0, .ref q0), (1, .int a1), (2, .int a2), (3, .int v3)] dX7_drawItem_213 (by decide) rfl ?_
    refine a_iconst C0 (0 : Int32) dX7_drawItem_215 (by decide) ?_
    refine a_istore C0 [(7, .int (0 : Int32)), (6, .int x_92), (5, .int x_80), (4, .int x_77), (0, .ref q0), (1, .int a1), (2, .int a2), (3, .int v3)] dX7_drawItem_216 (by decide) rfl ?_
    refine a_lv [4, 5, 6, 3, 2, 1, 0] (lv' := [(0, .ref q0), (1, .int a1), (2, .int a2), (4, .int x_77), (5, .int x_80), (6, .int x_92), (7, .int (0 : Int32))]) rfl ?_
    exact bwX7_drawItem_218 C0 N a1 a2 l0_31 N x_77 x_80 x_92 (0 : Int32) f0_84 l0_32_85 f1_86 f2 f3_87 f4 f5 f6 f7 f8_88 h
set_option maxHeartbeats 4000000 in
set_option maxRecDepth 100000 in
theorem bwX7_drawItem_17 {p : Program} {l : Launch} {e : Env} {s : State} {m : MethodId} {args : Array Value} {below : List Frame} {meth : Method} {c : Code} {D : va_G} {A : Nat → Prop} {cA : ClassId} {q0 q1 q2 q3 q4 q5 q6 q7 q8 q9 q10 q11 q12 q13 : Nat} {res : (Nat → Int32) × Int64 × (Nat → Int32) × (Nat → Int32) × (Nat → Int32) × (Nat → Int32) × (Nat → Int32) × (Nat → Int32) × (Nat → Int32) × (Nat → Int32)} (C0 : cx p s m args meth c cX7_drawItem 8 RX7 wsX7_drawItem none D vwCl [(cA, .int)] A) (N : Nat) (a1 : Int32) (a2 : Int32) (l0_31 : Int64) (v3 : Int32) (f0 : Nat → Int32) (l0_32 : Int64) (f1 : Nat → Int32) (f2 : Nat → Int32) (f3 : Nat → Int32) (f4 : Nat → Int32) (f5 : Nat → Int32) (f6 : Nat → Int32) (f7 : Nat → Int32) (f8 : Nat → Int32) (h : bfX7_drawItem_17 N a1 a2 l0_31  v3 f0 l0_32 f1 f2 f3 f4 f5 f6 f7 f8 = some res) : At_ p l e (rmX7_drawItem) s m args below meth c D vwCl A 8 0 0 (Qv_ below args s D vwCl A (wdX7_14 cA q0 q1 q2 q3 q4 q5 q6 q7 q8 q9 q10 q11 q12 q13 res.1 l0_31 res.2.1 res.2.2.1 res.2.2.2.1 res.2.2.2.2.1 res.2.2.2.2.2.1 res.2.2.2.2.2.2.1 res.2.2.2.2.2.2.2.1 res.2.2.2.2.2.2.2.2.1 res.2.2.2.2.2.2.2.2.2)) 17 [(0, .ref q0), (1, .int a1), (2, .int a2), (3, .int v3)] [] (wdX7_14 cA q0 q1 q2 q3 q4 q5 q6 q7 q8 q9 q10 q11 q12 q13 f0 l0_31 l0_32 f1 f2 f3 f4 f5 f6 f7 f8) := by
  unfold bfX7_drawItem_17 at h
  refine a_aload_n C0 dX7_drawItem_17 rfl 0 rfl ?_
  refine a_get C0 inX7_drawItem_X7 0 rfl rfl 4 (by decide) lkX7_drawItem_16 (fun _ h9 => h9) (.ref q3) rfl dX7_drawItem_18 ?_
  refine a_aload_n C0 dX7_drawItem_21 rfl 0 rfl ?_
  refine a_get C0 inX7_drawItem_X7 0 rfl rfl 2 (by decide) lkX7_drawItem_66 (fun _ h9 => h9) (.int (f0 2)) rfl dX7_drawItem_22 ?_
  obtain ⟨g_93, h⟩ := gi_e h
  refine a_iald C0 3 0 rfl rfl g_93 dX7_drawItem_25 ?_
  refine a_if_le C0 142 dX7_drawItem_26 (by decide) (fun c_94 => ?_) (fun c_94 => ?_)
  · have h := it_ c_94 h
    exact bwX7_drawItem_142 C0 N a1 a2 l0_31 v3 f0 l0_32 f1 f2 f3 f4 f5 f6 f7 f8 h
  · have h := ie_ c_94 h
    refine a_iconst C0 (2 : Int32) dX7_drawItem_29 (by decide) ?_
    refine a_aload_n C0 dX7_drawItem_30 rfl 0 rfl ?_
    refine a_bipush C0 (6 : Int32) dX7_drawItem_31 (by decide) ?_
    obtain ⟨r_95, l0_32_96, h_97, h⟩ := bd2_e h
    refine a_callVi C0 (wdX7_14 cA q0 q1 q2 q3 q4 q5 q6 q7 q8 q9 q10 q11 q12 q13 f0 l0_31 l0_32_96 f1 f2 f3 f4 f5 f6 f7 f8) (As := [.int (6 : Int32)]) (rest := [.int (2 : Int32)]) (ctX7_pick l D cA q0 q1 q2 q3 q4 q5 q6 q7 q8 q9 q10 q11 q12 q13 (6 : Int32) f0 l0_31 l0_32 h_97) (cwV 1 C0.1.2.2.2.2 gX7_drawItem_X7_pick rfl rfl rfl hdX7_pick ⟨Nat.le_of_ble_eq_true rfl, Nat.le_of_ble_eq_true rfl⟩) [0] [1, 2, 3, 4, 5, 6, 7, 8] [8, 0, 1, 2, 3, 4, 5, 6, 7] rfl rfl rfl rfl (by decide) rfl rfl rfl rfl rfl rfl (Nat.le_of_ble_eq_true rfl) dX7_drawItem_33 ⟨Nat.zero_le _, Nat.zero_le _⟩ ?_
    refine a_iadd C0 dX7_drawItem_36 ?_
    obtain ⟨x_98, ex_98, h⟩ := lt_e h
    refine a_topi ex_98 ?_
    refine a_istore C0 [(4, .int x_98), (0, .ref q0), (1, .int a1), (2, .int a2), (3, .int v3)] dX7_drawItem_37 (by decide) rfl ?_
    refine a_aload_n C0 dX7_drawItem_39 rfl 1 rfl ?_
    refine a_aload_n C0 dX7_drawItem_40 rfl 1 rfl ?_
    refine a_get C0 inX7_drawItem_X7 0 rfl rfl 4 (by decide) lkX7_drawItem_16 (fun _ h9 => h9) (.ref q3) rfl dX7_drawItem_41 ?_
    refine a_aload_n C0 dX7_drawItem_44 rfl 1 rfl ?_
    refine a_get C0 inX7_drawItem_X7 0 rfl rfl 2 (by decide) lkX7_drawItem_66 (fun _ h9 => h9) (.int (f0 2)) rfl dX7_drawItem_45 ?_
    obtain ⟨g_99, h⟩ := gi_e h
    refine a_iald C0 3 0 rfl rfl g_99 dX7_drawItem_48 ?_
    refine a_sipush C0 (256 : Int32) dX7_drawItem_49 (by decide) ?_
    refine a_icmp_ge C0 67 dX7_drawItem_52 (by decide) (fun c_100 => ?_) (fun c_100 => ?_)
    · have h := it_ c_100 h
      refine a_sipush C0 (256 : Int32) dX7_drawItem_67 (by decide) ?_
      refine a_lv [1, 2, 3, 0] (lv' := [(0, .ref q0), (1, .int a1), (2, .int a2), (4, .int x_98)]) rfl ?_
      exact bwX7_drawItem_70 C0 N a1 a2 l0_31 x_98 (256 : Int32) f0 l0_32_96 f1 f2 f3 f4 f5 f6 f7 f8 h
    · have h := ie_ c_100 h
      refine a_aload_n C0 dX7_drawItem_55 rfl 1 rfl ?_
      refine a_get C0 inX7_drawItem_X7 0 rfl rfl 4 (by decide) lkX7_drawItem_16 (fun _ h9 => h9) (.ref q3) rfl dX7_drawItem_56 ?_
      refine a_aload_n C0 dX7_drawItem_59 rfl 1 rfl ?_
      refine a_get C0 inX7_drawItem_X7 0 rfl rfl 2 (by decide) lkX7_drawItem_66 (fun _ h9 => h9) (.int (f0 2)) rfl dX7_drawItem_60 ?_
      obtain ⟨g_101, h⟩ := gi_e h
      refine a_iald C0 3 0 rfl rfl g_101 dX7_drawItem_63 ?_
      refine a_goto C0 70 dX7_drawItem_64 (by decide) ?_
      refine a_lv [1, 2, 3, 0] (lv' := [(0, .ref q0), (1, .int a1), (2, .int a2), (4, .int x_98)]) rfl ?_
      exact bwX7_drawItem_70 C0 N a1 a2 l0_31 x_98 (f3 (f0 2).toNatClampNeg) f0 l0_32_96 f1 f2 f3 f4 f5 f6 f7 f8 h
set_option maxHeartbeats 4000000 in
set_option maxRecDepth 100000 in
theorem bwX7_drawItem {p : Program} {l : Launch} {e : Env} {s : State} {m : MethodId} {args : Array Value} {below : List Frame} {meth : Method} {c : Code} {D : va_G} {A : Nat → Prop} {cA : ClassId} {q0 q1 q2 q3 q4 q5 q6 q7 q8 q9 q10 q11 q12 q13 : Nat} {res : (Nat → Int32) × Int64 × (Nat → Int32) × (Nat → Int32) × (Nat → Int32) × (Nat → Int32) × (Nat → Int32) × (Nat → Int32) × (Nat → Int32) × (Nat → Int32)} (C0 : cx p s m args meth c cX7_drawItem 8 RX7 wsX7_drawItem none D vwCl [(cA, .int)] A) (N : Nat) (a1 : Int32) (a2 : Int32) (f0 : Nat → Int32) (l0_31 : Int64) (l0_32 : Int64) (f1 : Nat → Int32) (f2 : Nat → Int32) (f3 : Nat → Int32) (f4 : Nat → Int32) (f5 : Nat → Int32) (f6 : Nat → Int32) (f7 : Nat → Int32) (f8 : Nat → Int32) (h : pX7_drawItem N a1 a2 f0 l0_31 l0_32 f1 f2 f3 f4 f5 f6 f7 f8 = some res) : At_ p l e (rmX7_drawItem) s m args below meth c D vwCl A 8 0 0 (Qv_ below args s D vwCl A (wdX7_14 cA q0 q1 q2 q3 q4 q5 q6 q7 q8 q9 q10 q11 q12 q13 res.1 l0_31 res.2.1 res.2.2.1 res.2.2.2.1 res.2.2.2.2.1 res.2.2.2.2.2.1 res.2.2.2.2.2.2.1 res.2.2.2.2.2.2.2.1 res.2.2.2.2.2.2.2.2.1 res.2.2.2.2.2.2.2.2.2)) 0 [(0, .ref q0), (1, .int a1), (2, .int a2)] [] (wdX7_14 cA q0 q1 q2 q3 q4 q5 q6 q7 q8 q9 q10 q11 q12 q13 f0 l0_31 l0_32 f1 f2 f3 f4 f5 f6 f7 f8) := by
  unfold pX7_drawItem at h
  refine a_aload_n C0 dX7_drawItem_0 rfl 0 rfl ?_
  refine a_bipush C0 (8 : Int32) dX7_drawItem_1 (by decide) ?_
  obtain ⟨r_102, l0_32_103, h_104, h⟩ := bd2_e h
  refine a_callVi C0 (wdX7_14 cA q0 q1 q2 q3 q4 q5 q6 q7 q8 q9 q10 q11 q12 q13 f0 l0_31 l0_32_103 f1 f2 f3 f4 f5 f6 f7 f8) (As := [.int (8 : Int32)]) (rest := []) (ctX7_pick l D cA q0 q1 q2 q3 q4 q5 q6 q7 q8 q9 q10 q11 q12 q13 (8 : Int32) f0 l0_31 l0_32 h_104) (cwV 1 C0.1.2.2.2.2 gX7_drawItem_X7_pick rfl rfl rfl hdX7_pick ⟨Nat.le_of_ble_eq_true rfl, Nat.le_of_ble_eq_true rfl⟩) [0] [1, 2, 3, 4, 5, 6, 7, 8] [8, 0, 1, 2, 3, 4, 5, 6, 7] rfl rfl rfl rfl (by decide) rfl rfl rfl rfl rfl rfl (Nat.le_of_ble_eq_true rfl) dX7_drawItem_3 ⟨Nat.zero_le _, Nat.zero_le _⟩ ?_
  refine a_istore_n C0 [(3, .int r_102), (0, .ref q0), (1, .int a1), (2, .int a2)] dX7_drawItem_6 rfl (by decide) rfl ?_
  refine a_iload_n C0 dX7_drawItem_7 rfl 0 rfl ?_
  refine a_iconst C0 (3 : Int32) dX7_drawItem_8 (by decide) ?_
  refine a_icmp_eq C0 17 dX7_drawItem_9 (by decide) (fun c_105 => ?_) (fun c_105 => ?_)
  · have h := it_ c_105 h
    refine a_lv [1, 2, 3, 0] (lv' := [(0, .ref q0), (1, .int a1), (2, .int a2), (3, .int r_102)]) rfl ?_
    exact bwX7_drawItem_17 C0 N a1 a2 l0_31 r_102 f0 l0_32_103 f1 f2 f3 f4 f5 f6 f7 f8 h
  · have h := ie_ c_105 h
    refine a_iload_n C0 dX7_drawItem_12 rfl 0 rfl ?_
    refine a_iconst C0 (4 : Int32) dX7_drawItem_13 (by decide) ?_
    refine a_icmp_ne C0 142 dX7_drawItem_14 (by decide) (fun c_106 => ?_) (fun c_106 => ?_)
    · have h := ie_ c_106 h
      refine a_lv [1, 2, 3, 0] (lv' := [(0, .ref q0), (1, .int a1), (2, .int a2), (3, .int r_102)]) rfl ?_
      exact bwX7_drawItem_142 C0 N a1 a2 l0_31 r_102 f0 l0_32_103 f1 f2 f3 f4 f5 f6 f7 f8 h
    · have h := it_ c_106 h
      refine a_lv [1, 2, 3, 0] (lv' := [(0, .ref q0), (1, .int a1), (2, .int a2), (3, .int r_102)]) rfl ?_
      exact bwX7_drawItem_17 C0 N a1 a2 l0_31 r_102 f0 l0_32_103 f1 f2 f3 f4 f5 f6 f7 f8 h
set_option maxRecDepth 100000 in
theorem ctX7_drawItem (l : Launch) (D : va_G) (cA : ClassId) (q0 q1 q2 q3 q4 q5 q6 q7 q8 q9 q10 q11 q12 q13 : Nat) (N : Nat) (a1 : Int32) (a2 : Int32) (f0 : Nat → Int32) (l0_31 : Int64) (l0_32 : Int64) (f1 : Nat → Int32) (f2 : Nat → Int32) (f3 : Nat → Int32) (f4 : Nat → Int32) (f5 : Nat → Int32) (f6 : Nat → Int32) (f7 : Nat → Int32) (f8 : Nat → Int32) {res : (Nat → Int32) × Int64 × (Nat → Int32) × (Nat → Int32) × (Nat → Int32) × (Nat → Int32) × (Nat → Int32) × (Nat → Int32) × (Nat → Int32) × (Nat → Int32)} (h : pX7_drawItem N a1 a2 f0 l0_31 l0_32 f1 f2 f3 f4 f5 f6 f7 f8 = some res) : Ctv l yX7_drawItem wsX7_drawItem (rmX7_drawItem) D vwCl [(cA, .int)] [.ref q0, .int a1, .int a2] (wdX7_14 cA q0 q1 q2 q3 q4 q5 q6 q7 q8 q9 q10 q11 q12 q13 f0 l0_31 l0_32 f1 f2 f3 f4 f5 f6 f7 f8) (wdX7_14 cA q0 q1 q2 q3 q4 q5 q6 q7 q8 q9 q10 q11 q12 q13 res.1 l0_31 res.2.1 res.2.2.1 res.2.2.2.1 res.2.2.2.2.1 res.2.2.2.2.2.1 res.2.2.2.2.2.2.1 res.2.2.2.2.2.2.2.1 res.2.2.2.2.2.2.2.2.1 res.2.2.2.2.2.2.2.2.2) 0 0 :=
  ct_n (S := Unit) (maxL := 8) (cc := cX7_drawItem) (by decide) rfl (Nat.le_of_ble_eq_true rfl) (fun p e s m below meth c _ C0 => bwX7_drawItem C0 N a1 a2 f0 l0_31 l0_32 f1 f2 f3 f4 f5 f6 f7 f8 h)
/-! PackDrawerModel.drawEnd -/
abbrev wdX7_15 (cA : ClassId) (q0 q1 q2 q3 q4 q5 q6 q7 q8 q9 q10 q11 q12 q13 : Nat) (f0 : Nat → Int32) (l0_31 : Int64) (l0_32 : Int64) (f1 : Nat → Int32) (f2 : Nat → Int32) (f3 : Nat → Int32) (f6 : Nat → Int32) (f8 : Nat → Int32) : va_W := [(q0, .inr (7, [.ref q1, .int (f0 1), .int (f0 2), .ref q2, .ref q3, .ref q4, .ref q5, .ref q6, .ref q7, .ref q8, .int (f0 10), .ref q9, .ref q10, .ref q11, .int (f0 14), .int (f0 15), .int (f0 16), .int (f0 17), .int (f0 18), .int (f0 19), .int (f0 20), .int (f0 21), .int (f0 22), .int (f0 23), .int (f0 24), .int (f0 25), .int (f0 26), .int (f0 27), .int (f0 28), .ref q12, .ref q13, .long l0_31, .long l0_32])), (q1, .inl (cA, 160, .inl f1)), (q2, .inl (cA, 6, .inl f2)), (q3, .inl (cA, 6, .inl f3)), (q6, .inl (cA, 6, .inl f6)), (q8, .inl (cA, 2000, .inl f8))]
abbrev rmX7_drawEnd : Room := { frames := 1, cells := 0, slots := 0, locals := 21 }
theorem lkX7_drawEnd_16 : Cond.fieldLink RX7 16 RX7 (TX7 4).2.1 (TX7 4).2.2.1 ∈ wsX7_drawEnd := by decide +kernel
theorem inX7_drawEnd_X7 : ∀ w ∈ u_ws RX7 TX7 33, w ∈ wsX7_drawEnd := by decide +kernel
theorem lkX7_drawEnd_66 : Cond.fieldLink RX7 66 RX7 (TX7 2).2.1 (TX7 2).2.2.1 ∈ wsX7_drawEnd := by decide +kernel
theorem lkX7_drawEnd_7 : Cond.fieldLink RX7 7 RX7 (TX7 0).2.1 (TX7 0).2.2.1 ∈ wsX7_drawEnd := by decide +kernel
theorem lkX7_drawEnd_25 : Cond.fieldLink RX7 25 RX7 (TX7 7).2.1 (TX7 7).2.2.1 ∈ wsX7_drawEnd := by decide +kernel
theorem lkX7_drawEnd_53 : Cond.fieldLink RX7 53 RX7 (TX7 1).2.1 (TX7 1).2.2.1 ∈ wsX7_drawEnd := by decide +kernel
theorem lkX7_drawEnd_31 : Cond.fieldLink RX7 31 RX7 (TX7 9).2.1 (TX7 9).2.2.1 ∈ wsX7_drawEnd := by decide +kernel
theorem lkX7_drawEnd_13 : Cond.fieldLink RX7 13 RX7 (TX7 3).2.1 (TX7 3).2.2.1 ∈ wsX7_drawEnd := by decide +kernel
def bFX7_drawEnd_4 (N : Nat) (l0_31 : Int64) (l0_32 : Int64) (f2 : Nat → Int32) (f6 : Nat → Int32) (f8 : Nat → Int32) (rc4 : Int32 → Int32 → (Nat → Int32) → (Nat → Int32) → (Nat → Int32) → Option ((Nat → Int32) × (Nat → Int32) × (Nat → Int32))) (v1 : Int32) (v2 : Int32) (f0 : Nat → Int32) (f1 : Nat → Int32) (f3 : Nat → Int32) : Option ((Nat → Int32) × (Nat → Int32) × (Nat → Int32)) := gi_ (f0 2) 6 (if (f3 (f0 2).toNatClampNeg) ≤ v2 then bd2 (pX7_lay (0 : Int32) f0 l0_31 l0_32 f1) (fun f0_3 f1_4 => bd2 (pX7_lay (v1 &&& (255 : Int32)) f0_3 l0_31 l0_32 f1_4) (fun f0_6 f1_7 => if (f0_6 2) ≤ 0 then lt_ (upd f0_6 2 ((f0_6 2) - (1 : Int32))) (fun f0_10 => some (f0_10, f1_7, f3)) else gi_ (f0_6 2) 6 (gi_ (f0_6 2) 6 (gi_ (f6 (f0_6 2).toNatClampNeg) 160 (lt_ (upd f1_7 (f6 (f0_6 2).toNatClampNeg).toNatClampNeg (((f0_6 1) - (f6 (f0_6 2).toNatClampNeg)) - (1 : Int32))) (fun f1_14 => gi_ ((f0_6 2) - (1 : Int32)) 6 (gi_ (f0_6 2) 6 (gi_ ((f0_6 2) - (1 : Int32)) 6 (lt_ (upd f3 ((f0_6 2) - (1 : Int32)).toNatClampNeg ((f3 ((f0_6 2) - (1 : Int32)).toNatClampNeg) + (f3 (f0_6 2).toNatClampNeg))) (fun f3_18 => lt_ (upd f0_6 2 ((f0_6 2) - (1 : Int32))) (fun f0_19 => some (f0_19, f1_14, f3_18)))))))))))) else gi_ (f0 2) 6 (gi_ ((f2 (f0 2).toNatClampNeg) + v2) 2000 (lt_ ((v1 + (f8 ((f2 (f0 2).toNatClampNeg) + v2).toNatClampNeg))) (fun x_22 => lt_ ((v2 + (1 : Int32))) (fun x_23 => rc4 x_22 x_23 f0 f1 f3)))))
def bfX7_drawEnd_4 (N : Nat) (l0_31 : Int64) (l0_32 : Int64) (f2 : Nat → Int32) (f6 : Nat → Int32) (f8 : Nat → Int32) : Nat → Int32 → Int32 → (Nat → Int32) → (Nat → Int32) → (Nat → Int32) → Option ((Nat → Int32) × (Nat → Int32) × (Nat → Int32))
  | 0 => fun _ _ _ _ _ => none
  | n + 1 => bFX7_drawEnd_4 N l0_31 l0_32 f2 f6 f8  (bfX7_drawEnd_4 N l0_31 l0_32 f2 f6 f8  n)
def pX7_drawEnd (N : Nat) (f0 : Nat → Int32) (l0_31 : Int64) (l0_32 : Int64) (f1 : Nat → Int32) (f2 : Nat → Int32) (f3 : Nat → Int32) (f6 : Nat → Int32) (f8 : Nat → Int32) : Option ((Nat → Int32) × (Nat → Int32) × (Nat → Int32)) := bfX7_drawEnd_4 N l0_31 l0_32 f2 f6 f8 N (0 : Int32) (0 : Int32) f0 f1 f3
set_option maxHeartbeats 4000000 in
set_option maxRecDepth 100000 in
theorem bwX7_drawEnd_4 {p : Program} {l : Launch} {e : Env} {s : State} {m : MethodId} {args : Array Value} {below : List Frame} {meth : Method} {c : Code} {D : va_G} {A : Nat → Prop} {cA : ClassId} {q0 q1 q2 q3 q4 q5 q6 q7 q8 q9 q10 q11 q12 q13 : Nat} {res : (Nat → Int32) × (Nat → Int32) × (Nat → Int32)} (C0 : cx p s m args meth c cX7_drawEnd 3 RX7 wsX7_drawEnd none D vwCl [(cA, .int)] A) (N : Nat) (l0_31 : Int64) (l0_32 : Int64) (f2 : Nat → Int32) (f6 : Nat → Int32) (f8 : Nat → Int32) : ∀ (n : Nat) (v1 : Int32) (v2 : Int32) (f0 : Nat → Int32) (f1 : Nat → Int32) (f3 : Nat → Int32), bfX7_drawEnd_4 N l0_31 l0_32 f2 f6 f8  n v1 v2 f0 f1 f3 = some res → At_ p l e (rmX7_drawEnd) s m args below meth c D vwCl A 3 0 0 (Qv_ below args s D vwCl A (wdX7_15 cA q0 q1 q2 q3 q4 q5 q6 q7 q8 q9 q10 q11 q12 q13 res.1 l0_31 l0_32 res.2.1 f2 res.2.2 f6 f8)) 4 [(0, .ref q0), (1, .int v1), (2, .int v2)] [] (wdX7_15 cA q0 q1 q2 q3 q4 q5 q6 q7 q8 q9 q10 q11 q12 q13 f0 l0_31 l0_32 f1 f2 f3 f6 f8) := by
  intro n
  induction n with
  | zero => intro v1 v2 f0 f1 f3 h; cases h
  | succ n hrc4 =>
    intro v1 v2 f0 f1 f3 h
    replace h : bFX7_drawEnd_4 N l0_31 l0_32 f2 f6 f8  (bfX7_drawEnd_4 N l0_31 l0_32 f2 f6 f8  n) v1 v2 f0 f1 f3 = some res := h
    generalize bfX7_drawEnd_4 N l0_31 l0_32 f2 f6 f8  n = rc4 at h hrc4
    unfold bFX7_drawEnd_4 at h
    refine a_iload_n C0 dX7_drawEnd_4 rfl 2 rfl ?_
    refine a_aload_n C0 dX7_drawEnd_5 rfl 0 rfl ?_
    refine a_get C0 inX7_drawEnd_X7 0 rfl rfl 4 (by decide) lkX7_drawEnd_16 (fun _ h9 => h9) (.ref q3) rfl dX7_drawEnd_6 ?_
    refine a_aload_n C0 dX7_drawEnd_9 rfl 0 rfl ?_
    refine a_get C0 inX7_drawEnd_X7 0 rfl rfl 2 (by decide) lkX7_drawEnd_66 (fun _ h9 => h9) (.int (f0 2)) rfl dX7_drawEnd_10 ?_
    obtain ⟨g_1, h⟩ := gi_e h
    refine a_iald C0 3 0 rfl rfl g_1 dX7_drawEnd_13 ?_
    refine a_icmp_ge C0 42 dX7_drawEnd_14 (by decide) (fun c_2 => ?_) (fun c_2 => ?_)
    · have h := it_ c_2 h
      refine a_aload_n C0 dX7_drawEnd_42 rfl 0 rfl ?_
      refine a_iconst C0 (0 : Int32) dX7_drawEnd_43 (by decide) ?_
      obtain ⟨f0_3, f1_4, h_5, h⟩ := bd2_e h
      refine a_callVv C0 (wdX7_15 cA q0 q1 q2 q3 q4 q5 q6 q7 q8 q9 q10 q11 q12 q13 f0_3 l0_31 l0_32 f1_4 f2 f3 f6 f8) (As := [.int (0 : Int32)]) (rest := []) (ctX7_lay l D cA q0 q1 q2 q3 q4 q5 q6 q7 q8 q9 q10 q11 q12 q13 (0 : Int32) f0 l0_31 l0_32 f1 h_5) (cwV 1 C0.1.2.2.2.2 gX7_drawEnd_X7_lay rfl rfl rfl hdX7_lay ⟨Nat.le_of_ble_eq_true rfl, Nat.le_of_ble_eq_true rfl⟩) [0, 1] [2, 3, 4, 5] [4, 5, 0, 1, 2, 3] rfl rfl rfl rfl (by decide) rfl rfl rfl rfl rfl rfl (Nat.le_of_ble_eq_true rfl) dX7_drawEnd_44 ⟨Nat.zero_le _, Nat.zero_le _⟩ ?_
      refine a_aload_n C0 dX7_drawEnd_47 rfl 0 rfl ?_
      refine a_iload_n C0 dX7_drawEnd_48 rfl 1 rfl ?_
      refine a_sipush C0 (255 : Int32) dX7_drawEnd_49 (by decide) ?_
      refine a_iand C0 dX7_drawEnd_52 ?_
      obtain ⟨f0_6, f1_7, h_8, h⟩ := bd2_e h
      refine a_callVv C0 (wdX7_15 cA q0 q1 q2 q3 q4 q5 q6 q7 q8 q9 q10 q11 q12 q13 f0_6 l0_31 l0_32 f1_7 f2 f3 f6 f8) (As := [.int (v1 &&& (255 : Int32))]) (rest := []) (ctX7_lay l D cA q0 q1 q2 q3 q4 q5 q6 q7 q8 q9 q10 q11 q12 q13 (v1 &&& (255 : Int32)) f0_3 l0_31 l0_32 f1_4 h_8) (cwV 1 C0.1.2.2.2.2 gX7_drawEnd_X7_lay rfl rfl rfl hdX7_lay ⟨Nat.le_of_ble_eq_true rfl, Nat.le_of_ble_eq_true rfl⟩) [0, 1] [2, 3, 4, 5] [4, 5, 0, 1, 2, 3] rfl rfl rfl rfl (by decide) rfl rfl rfl rfl rfl rfl (Nat.le_of_ble_eq_true rfl) dX7_drawEnd_53 ⟨Nat.zero_le _, Nat.zero_le _⟩ ?_
      refine a_aload_n C0 dX7_drawEnd_56 rfl 0 rfl ?_
      refine a_get C0 inX7_drawEnd_X7 0 rfl rfl 2 (by decide) lkX7_drawEnd_66 (fun _ h9 => h9) (.int (f0_6 2)) rfl dX7_drawEnd_57 ?_
      refine a_if_le C0 116 dX7_drawEnd_60 (by decide) (fun c_9 => ?_) (fun c_9 => ?_)
      · have h := it_ c_9 h
        refine a_aload_n C0 dX7_drawEnd_116 rfl 0 rfl ?_
        refine a_dup C0 dX7_drawEnd_117 rfl ?_
        refine a_get C0 inX7_drawEnd_X7 0 rfl rfl 2 (by decide) lkX7_drawEnd_66 (fun _ h9 => h9) (.int (f0_6 2)) rfl dX7_drawEnd_118 ?_
        refine a_iconst C0 (1 : Int32) dX7_drawEnd_121 (by decide) ?_
        refine a_isub C0 dX7_drawEnd_122 ?_
        obtain ⟨f0_10, ef0_10, h⟩ := lt_e h
        refine a_put C0 inX7_drawEnd_X7 tyX7 tyX7_ok nmX7 0 rfl rfl 2 (by decide) lkX7_drawEnd_66 (fun _ h9 => h9) rfl (ty := .int) (v := .int ((f0_6 2) - (1 : Int32))) (by decide +kernel) rfl rfl (Nat.le_of_ble_eq_true rfl) dX7_drawEnd_123 (wdX7_15 cA q0 q1 q2 q3 q4 q5 q6 q7 q8 q9 q10 q11 q12 q13 f0_10 l0_31 l0_32 f1_7 f2 f3 f6 f8) (by subst ef0_10; rfl) ?_
        obtain rfl := Option.some.inj h
        exact a_vret C0 dX7_drawEnd_126 rfl
      · have h := ie_ c_9 h
        refine a_aload_n C0 dX7_drawEnd_63 rfl 0 rfl ?_
        refine a_get C0 inX7_drawEnd_X7 0 rfl rfl 0 (by decide) lkX7_drawEnd_7 (fun _ h9 => h9) (.ref q1) rfl dX7_drawEnd_64 ?_
        refine a_aload_n C0 dX7_drawEnd_67 rfl 0 rfl ?_
        refine a_get C0 inX7_drawEnd_X7 0 rfl rfl 7 (by decide) lkX7_drawEnd_25 (fun _ h9 => h9) (.ref q6) rfl dX7_drawEnd_68 ?_
        refine a_aload_n C0 dX7_drawEnd_71 rfl 0 rfl ?_
        refine a_get C0 inX7_drawEnd_X7 0 rfl rfl 2 (by decide) lkX7_drawEnd_66 (fun _ h9 => h9) (.int (f0_6 2)) rfl dX7_drawEnd_72 ?_
        obtain ⟨g_11, h⟩ := gi_e h
        refine a_iald C0 4 0 rfl rfl g_11 dX7_drawEnd_75 ?_
        refine a_aload_n C0 dX7_drawEnd_76 rfl 0 rfl ?_
        refine a_get C0 inX7_drawEnd_X7 0 rfl rfl 1 (by decide) lkX7_drawEnd_53 (fun _ h9 => h9) (.int (f0_6 1)) rfl dX7_drawEnd_77 ?_
        refine a_aload_n C0 dX7_drawEnd_80 rfl 0 rfl ?_
        refine a_get C0 inX7_drawEnd_X7 0 rfl rfl 7 (by decide) lkX7_drawEnd_25 (fun _ h9 => h9) (.ref q6) rfl dX7_drawEnd_81 ?_
        refine a_aload_n C0 dX7_drawEnd_84 rfl 0 rfl ?_
        refine a_get C0 inX7_drawEnd_X7 0 rfl rfl 2 (by decide) lkX7_drawEnd_66 (fun _ h9 => h9) (.int (f0_6 2)) rfl dX7_drawEnd_85 ?_
        obtain ⟨g_12, h⟩ := gi_e h
        refine a_iald C0 4 0 rfl rfl g_12 dX7_drawEnd_88 ?_
        refine a_isub C0 dX7_drawEnd_89 ?_
        refine a_iconst C0 (1 : Int32) dX7_drawEnd_90 (by decide) ?_
        refine a_isub C0 dX7_drawEnd_91 ?_
        obtain ⟨g_13, h⟩ := gi_e h
        obtain ⟨f1_14, ef1_14, h⟩ := lt_e h
        refine a_iast C0 1 0 rfl rfl g_13 dX7_drawEnd_92 (wdX7_15 cA q0 q1 q2 q3 q4 q5 q6 q7 q8 q9 q10 q11 q12 q13 f0_6 l0_31 l0_32 f1_14 f2 f3 f6 f8) (by subst ef1_14; rfl) ?_
        refine a_aload_n C0 dX7_drawEnd_93 rfl 0 rfl ?_
        refine a_get C0 inX7_drawEnd_X7 0 rfl rfl 4 (by decide) lkX7_drawEnd_16 (fun _ h9 => h9) (.ref q3) rfl dX7_drawEnd_94 ?_
        refine a_aload_n C0 dX7_drawEnd_97 rfl 0 rfl ?_
        refine a_get C0 inX7_drawEnd_X7 0 rfl rfl 2 (by decide) lkX7_drawEnd_66 (fun _ h9 => h9) (.int (f0_6 2)) rfl dX7_drawEnd_98 ?_
        refine a_iconst C0 (1 : Int32) dX7_drawEnd_101 (by decide) ?_
        refine a_isub C0 dX7_drawEnd_102 ?_
        refine a_dup2 C0 dX7_drawEnd_103 rfl rfl ?_
        obtain ⟨g_15, h⟩ := gi_e h
        refine a_iald C0 3 0 rfl rfl g_15 dX7_drawEnd_104 ?_
        refine a_aload_n C0 dX7_drawEnd_105 rfl 0 rfl ?_
        refine a_get C0 inX7_drawEnd_X7 0 rfl rfl 4 (by decide) lkX7_drawEnd_16 (fun _ h9 => h9) (.ref q3) rfl dX7_drawEnd_106 ?_
        refine a_aload_n C0 dX7_drawEnd_109 rfl 0 rfl ?_
        refine a_get C0 inX7_drawEnd_X7 0 rfl rfl 2 (by decide) lkX7_drawEnd_66 (fun _ h9 => h9) (.int (f0_6 2)) rfl dX7_drawEnd_110 ?_
        obtain ⟨g_16, h⟩ := gi_e h
        refine a_iald C0 3 0 rfl rfl g_16 dX7_drawEnd_113 ?_
        refine a_iadd C0 dX7_drawEnd_114 ?_
        obtain ⟨g_17, h⟩ := gi_e h
        obtain ⟨f3_18, ef3_18, h⟩ := lt_e h
        refine a_iast C0 3 0 rfl rfl g_17 dX7_drawEnd_115 (wdX7_15 cA q0 q1 q2 q3 q4 q5 q6 q7 q8 q9 q10 q11 q12 q13 f0_6 l0_31 l0_32 f1_14 f2 f3_18 f6 f8) (by subst ef3_18; rfl) ?_
        refine a_aload_n C0 dX7_drawEnd_116 rfl 0 rfl ?_
        refine a_dup C0 dX7_drawEnd_117 rfl ?_
        refine a_get C0 inX7_drawEnd_X7 0 rfl rfl 2 (by decide) lkX7_drawEnd_66 (fun _ h9 => h9) (.int (f0_6 2)) rfl dX7_drawEnd_118 ?_
        refine a_iconst C0 (1 : Int32) dX7_drawEnd_121 (by decide) ?_
        refine a_isub C0 dX7_drawEnd_122 ?_
        obtain ⟨f0_19, ef0_19, h⟩ := lt_e h
        refine a_put C0 inX7_drawEnd_X7 tyX7 tyX7_ok nmX7 0 rfl rfl 2 (by decide) lkX7_drawEnd_66 (fun _ h9 => h9) rfl (ty := .int) (v := .int ((f0_6 2) - (1 : Int32))) (by decide +kernel) rfl rfl (Nat.le_of_ble_eq_true rfl) dX7_drawEnd_123 (wdX7_15 cA q0 q1 q2 q3 q4 q5 q6 q7 q8 q9 q10 q11 q12 q13 f0_19 l0_31 l0_32 f1_14 f2 f3_18 f6 f8) (by subst ef0_19; rfl) ?_
        obtain rfl := Option.some.inj h
        exact a_vret C0 dX7_drawEnd_126 rfl
    · have h := ie_ c_2 h
      refine a_iload_n C0 dX7_drawEnd_17 rfl 1 rfl ?_
      refine a_aload_n C0 dX7_drawEnd_18 rfl 0 rfl ?_
      refine a_get C0 inX7_drawEnd_X7 0 rfl rfl 9 (by decide) lkX7_drawEnd_31 (fun _ h9 => h9) (.ref q8) rfl dX7_drawEnd_19 ?_
      refine a_aload_n C0 dX7_drawEnd_22 rfl 0 rfl ?_
      refine a_get C0 inX7_drawEnd_X7 0 rfl rfl 3 (by decide) lkX7_drawEnd_13 (fun _ h9 => h9) (.ref q2) rfl dX7_drawEnd_23 ?_
      refine a_aload_n C0 dX7_drawEnd_26 rfl 0 rfl ?_
      refine a_get C0 inX7_drawEnd_X7 0 rfl rfl 2 (by decide) lkX7_drawEnd_66 (fun _ h9 => h9) (.int (f0 2)) rfl dX7_drawEnd_27 ?_
      obtain ⟨g_20, h⟩ := gi_e h
      refine a_iald C0 2 0 rfl rfl g_20 dX7_drawEnd_30 ?_
      refine a_iload_n C0 dX7_drawEnd_31 rfl 2 rfl ?_
      refine a_iadd C0 dX7_drawEnd_32 ?_
      obtain ⟨g_21, h⟩ := gi_e h
      refine a_iald C0 5 0 rfl rfl g_21 dX7_drawEnd_33 ?_
      refine a_iadd C0 dX7_drawEnd_34 ?_
      obtain ⟨x_22, ex_22, h⟩ := lt_e h
      refine a_topi ex_22 ?_
      refine a_istore_n C0 [(1, .int x_22), (0, .ref q0), (2, .int v2)] dX7_drawEnd_35 rfl (by decide) rfl ?_
      obtain ⟨x_23, ex_23, h⟩ := lt_e h
      refine a_iinc C0 x_23 [(2, .int x_23), (1, .int x_22), (0, .ref q0)] dX7_drawEnd_36 2 rfl (by subst ex_23; rfl) (by decide) rfl ?_
      refine a_goto C0 4 dX7_drawEnd_39 (by decide) ?_
      refine a_lv [2, 1, 0] (lv' := [(0, .ref q0), (1, .int x_22), (2, .int x_23)]) rfl ?_
      exact hrc4 x_22 x_23 f0 f1 f3 h
set_option maxHeartbeats 4000000 in
set_option maxRecDepth 100000 in
theorem bwX7_drawEnd {p : Program} {l : Launch} {e : Env} {s : State} {m : MethodId} {args : Array Value} {below : List Frame} {meth : Method} {c : Code} {D : va_G} {A : Nat → Prop} {cA : ClassId} {q0 q1 q2 q3 q4 q5 q6 q7 q8 q9 q10 q11 q12 q13 : Nat} {res : (Nat → Int32) × (Nat → Int32) × (Nat → Int32)} (C0 : cx p s m args meth c cX7_drawEnd 3 RX7 wsX7_drawEnd none D vwCl [(cA, .int)] A) (N : Nat) (f0 : Nat → Int32) (l0_31 : Int64) (l0_32 : Int64) (f1 : Nat → Int32) (f2 : Nat → Int32) (f3 : Nat → Int32) (f6 : Nat → Int32) (f8 : Nat → Int32) (h : pX7_drawEnd N f0 l0_31 l0_32 f1 f2 f3 f6 f8 = some res) : At_ p l e (rmX7_drawEnd) s m args below meth c D vwCl A 3 0 0 (Qv_ below args s D vwCl A (wdX7_15 cA q0 q1 q2 q3 q4 q5 q6 q7 q8 q9 q10 q11 q12 q13 res.1 l0_31 l0_32 res.2.1 f2 res.2.2 f6 f8)) 0 [(0, .ref q0)] [] (wdX7_15 cA q0 q1 q2 q3 q4 q5 q6 q7 q8 q9 q10 q11 q12 q13 f0 l0_31 l0_32 f1 f2 f3 f6 f8) := by
  unfold pX7_drawEnd at h
  refine a_iconst C0 (0 : Int32) dX7_drawEnd_0 (by decide) ?_
  refine a_istore_n C0 [(1, .int (0 : Int32)), (0, .ref q0)] dX7_drawEnd_1 rfl (by decide) rfl ?_
  refine a_iconst C0 (0 : Int32) dX7_drawEnd_2 (by decide) ?_
  refine a_istore_n C0 [(2, .int (0 : Int32)), (1, .int (0 : Int32)), (0, .ref q0)] dX7_drawEnd_3 rfl (by decide) rfl ?_
  refine a_lv [2, 1, 0] (lv' := [(0, .ref q0), (1, .int (0 : Int32)), (2, .int (0 : Int32))]) rfl ?_
  exact bwX7_drawEnd_4 C0 N l0_31 l0_32 f2 f6 f8 N (0 : Int32) (0 : Int32) f0 f1 f3 h
set_option maxRecDepth 100000 in
theorem ctX7_drawEnd (l : Launch) (D : va_G) (cA : ClassId) (q0 q1 q2 q3 q4 q5 q6 q7 q8 q9 q10 q11 q12 q13 : Nat) (N : Nat) (f0 : Nat → Int32) (l0_31 : Int64) (l0_32 : Int64) (f1 : Nat → Int32) (f2 : Nat → Int32) (f3 : Nat → Int32) (f6 : Nat → Int32) (f8 : Nat → Int32) {res : (Nat → Int32) × (Nat → Int32) × (Nat → Int32)} (h : pX7_drawEnd N f0 l0_31 l0_32 f1 f2 f3 f6 f8 = some res) : Ctv l yX7_drawEnd wsX7_drawEnd (rmX7_drawEnd) D vwCl [(cA, .int)] [.ref q0] (wdX7_15 cA q0 q1 q2 q3 q4 q5 q6 q7 q8 q9 q10 q11 q12 q13 f0 l0_31 l0_32 f1 f2 f3 f6 f8) (wdX7_15 cA q0 q1 q2 q3 q4 q5 q6 q7 q8 q9 q10 q11 q12 q13 res.1 l0_31 l0_32 res.2.1 f2 res.2.2 f6 f8) 0 0 :=
  ct_n (S := Unit) (maxL := 3) (cc := cX7_drawEnd) (by decide) rfl (Nat.le_of_ble_eq_true rfl) (fun p e s m below meth c _ C0 => bwX7_drawEnd C0 N f0 l0_31 l0_32 f1 f2 f3 f6 f8 h)
/-! PackDrawerModel.draw -/
theorem hdX7_drawEnd : yX7_drawEnd.cls = RX7 ∧ yX7_drawEnd.cls ≠ "java/lang/invoke/MethodHandle" ∧ yX7_drawEnd.cls ≠ "java/lang/invoke/VarHandle" ∧ (parseMethodDescriptor yX7_drawEnd.desc).map (fun d => d.parameters.length) = some 0 := by decide +kernel
theorem hdX7_drawItem : yX7_drawItem.cls = RX7 ∧ yX7_drawItem.cls ≠ "java/lang/invoke/MethodHandle" ∧ yX7_drawItem.cls ≠ "java/lang/invoke/VarHandle" ∧ (parseMethodDescriptor yX7_drawItem.desc).map (fun d => d.parameters.length) = some 2 := by decide +kernel
abbrev rmX7_draw : Room := { frames := 4, cells := 0, slots := 0, locals := 97 }
theorem lkX7_draw_66 : Cond.fieldLink RX7 66 RX7 (TX7 2).2.1 (TX7 2).2.2.1 ∈ wsX7_draw := by decide +kernel
theorem inX7_draw_X7 : ∀ w ∈ u_ws RX7 TX7 33, w ∈ wsX7_draw := by decide +kernel
theorem lkX7_draw_53 : Cond.fieldLink RX7 53 RX7 (TX7 1).2.1 (TX7 1).2.2.1 ∈ wsX7_draw := by decide +kernel
theorem lkX7_draw_19 : Cond.fieldLink RX7 19 RX7 (TX7 5).2.1 (TX7 5).2.2.1 ∈ wsX7_draw := by decide +kernel
theorem lkX7_draw_160 : Cond.fieldLink RX7 160 RX7 (TX7 31).2.1 (TX7 31).2.2.1 ∈ wsX7_draw := by decide +kernel
theorem lkX7_draw_156 : Cond.fieldLink RX7 156 RX7 (TX7 32).2.1 (TX7 32).2.2.1 ∈ wsX7_draw := by decide +kernel
theorem lkX7_draw_94 : Cond.fieldLink RX7 94 RX7 (TX7 10).2.1 (TX7 10).2.2.1 ∈ wsX7_draw := by decide +kernel
def bfX7_draw_119 (N : Nat) (a1 : Int64) (a3 : Int32) (a4 : Int32) (rc68 : (Nat → Int32) → Int64 → Int64 → (Nat → Int32) → (Nat → Int32) → (Nat → Int32) → (Nat → Int32) → (Nat → Int32) → (Nat → Int32) → (Nat → Int32) → (Nat → Int32) → Option (Int32 × (Nat → Int32) × Int64 × Int64 × (Nat → Int32) × (Nat → Int32) × (Nat → Int32) × (Nat → Int32) × (Nat → Int32) × (Nat → Int32) × (Nat → Int32) × (Nat → Int32))) (f0 : Nat → Int32) (l0_31 : Int64) (l0_32 : Int64) (f1 : Nat → Int32) (f2 : Nat → Int32) (f3 : Nat → Int32) (f4 : Nat → Int32) (f5 : Nat → Int32) (f6 : Nat → Int32) (f7 : Nat → Int32) (f8 : Nat → Int32) : Option (Int32 × (Nat → Int32) × Int64 × Int64 × (Nat → Int32) × (Nat → Int32) × (Nat → Int32) × (Nat → Int32) × (Nat → Int32) × (Nat → Int32) × (Nat → Int32) × (Nat → Int32)) := bd3 (pX7_drawEnd N f0 l0_31 l0_32 f1 f2 f3 f6 f8) (fun f0_1 f1_2 f3_3 => rc68 f0_1 l0_31 l0_32 f1_2 f2 f3_3 f4 f5 f6 f7 f8)
def bFX7_draw_68 (N : Nat) (a1 : Int64) (a3 : Int32) (a4 : Int32) (rc68 : (Nat → Int32) → Int64 → Int64 → (Nat → Int32) → (Nat → Int32) → (Nat → Int32) → (Nat → Int32) → (Nat → Int32) → (Nat → Int32) → (Nat → Int32) → (Nat → Int32) → Option (Int32 × (Nat → Int32) × Int64 × Int64 × (Nat → Int32) × (Nat → Int32) × (Nat → Int32) × (Nat → Int32) × (Nat → Int32) × (Nat → Int32) × (Nat → Int32) × (Nat → Int32))) (f0 : Nat → Int32) (l0_31 : Int64) (l0_32 : Int64) (f1 : Nat → Int32) (f2 : Nat → Int32) (f3 : Nat → Int32) (f4 : Nat → Int32) (f5 : Nat → Int32) (f6 : Nat → Int32) (f7 : Nat → Int32) (f8 : Nat → Int32) : Option (Int32 × (Nat → Int32) × Int64 × Int64 × (Nat → Int32) × (Nat → Int32) × (Nat → Int32) × (Nat → Int32) × (Nat → Int32) × (Nat → Int32) × (Nat → Int32) × (Nat → Int32)) := if (f0 2) < 0 then some ((f0 1), f0, l0_31, l0_32, f1, f2, f3, f4, f5, f6, f7, f8) else gi_ (f0 2) 6 (if (f4 (f0 2).toNatClampNeg) ≤ 0 then bfX7_draw_119 N a1 a3 a4 rc68 f0 l0_31 l0_32 f1 f2 f3 f4 f5 f6 f7 f8 else if (100 : Int32) ≤ (f0 1) then bfX7_draw_119 N a1 a3 a4 rc68 f0 l0_31 l0_32 f1 f2 f3 f4 f5 f6 f7 f8 else gi_ (f0 2) 6 (gi_ (f0 2) 6 (lt_ (upd f4 (f0 2).toNatClampNeg ((f4 (f0 2).toNatClampNeg) - (1 : Int32))) (fun f4_11 => bd10 (pX7_drawItem N a3 a4 f0 l0_31 l0_32 f1 f2 f3 f4_11 f5 f6 f7 f8) (fun f0_12 l0_32_13 f1_14 f2_15 f3_16 f4_17 f5_18 f6_19 f7_20 f8_21 => rc68 f0_12 l0_31 l0_32_13 f1_14 f2_15 f3_16 f4_17 f5_18 f6_19 f7_20 f8_21)))))
def bfX7_draw_68 (N : Nat) (a1 : Int64) (a3 : Int32) (a4 : Int32) : Nat → (Nat → Int32) → Int64 → Int64 → (Nat → Int32) → (Nat → Int32) → (Nat → Int32) → (Nat → Int32) → (Nat → Int32) → (Nat → Int32) → (Nat → Int32) → (Nat → Int32) → Option (Int32 × (Nat → Int32) × Int64 × Int64 × (Nat → Int32) × (Nat → Int32) × (Nat → Int32) × (Nat → Int32) × (Nat → Int32) × (Nat → Int32) × (Nat → Int32) × (Nat → Int32))
  | 0 => fun _ _ _ _ _ _ _ _ _ _ _ => none
  | n + 1 => bFX7_draw_68 N a1 a3 a4  (bfX7_draw_68 N a1 a3 a4  n)
def pX7_draw (N : Nat) (a1 : Int64) (a3 : Int32) (a4 : Int32) (f0 : Nat → Int32) (l0_31 : Int64) (l0_32 : Int64) (f1 : Nat → Int32) (f2 : Nat → Int32) (f3 : Nat → Int32) (f4 : Nat → Int32) (f5 : Nat → Int32) (f6 : Nat → Int32) (f7 : Nat → Int32) (f8 : Nat → Int32) : Option (Int32 × (Nat → Int32) × Int64 × Int64 × (Nat → Int32) × (Nat → Int32) × (Nat → Int32) × (Nat → Int32) × (Nat → Int32) × (Nat → Int32) × (Nat → Int32) × (Nat → Int32)) := bd1 (pX7_in a3 (0 : Int32) (2 : Int32)) (fun r_23 => if r_23 = 0 then some ((-2 : Int32), f0, l0_31, l0_32, f1, f2, f3, f4, f5, f6, f7, f8) else bd1 (pX7_in a4 (1 : Int32) (5 : Int32)) (fun r_26 => if r_26 = 0 then some ((-2 : Int32), f0, l0_31, l0_32, f1, f2, f3, f4, f5, f6, f7, f8) else lt_ (upd f0 1 (0 : Int32)) (fun f0_29 => lt_ (upd f0_29 2 (0 : Int32)) (fun f0_30 => lt_ (upd f0_30 10 (0 : Int32)) (fun f0_31 => bd7 (pX7_opens (0 : Int32) (-1 : Int32) (-1 : Int32) f0_31 a1 (0 : Int64) f2 f3 f4 f5 f6 f7) (fun f0_32 f2_33 f3_34 f4_35 f5_36 f6_37 f7_38 => bd2 (pX7_pick a4 f0_32 a1 (0 : Int64)) (fun r_40 l0_32_41 => gi_ (0 : Int32) 6 (lt_ (upd f4_35 (0 : Int32).toNatClampNeg ((1 : Int32) + r_40)) (fun f4_44 => bfX7_draw_68 N a1 a3 a4 N f0_32 a1 l0_32_41 f1 f2_33 f3_34 f4_44 f5_36 f6_37 f7_38 f8)))))))))
set_option maxHeartbeats 4000000 in
set_option maxRecDepth 100000 in
theorem bwX7_draw_119 {p : Program} {l : Launch} {e : Env} {s : State} {m : MethodId} {args : Array Value} {below : List Frame} {meth : Method} {c : Code} {D : va_G} {A : Nat → Prop} {cA : ClassId} {q0 q1 q2 q3 q4 q5 q6 q7 q8 q9 q10 q11 q12 q13 : Nat} {res : Int32 × (Nat → Int32) × Int64 × Int64 × (Nat → Int32) × (Nat → Int32) × (Nat → Int32) × (Nat → Int32) × (Nat → Int32) × (Nat → Int32) × (Nat → Int32) × (Nat → Int32)} (C0 : cx p s m args meth c cX7_draw 5 RX7 wsX7_draw (some .int) D vwCl [(cA, .int)] A) (N : Nat) (a1 : Int64) (a3 : Int32) (a4 : Int32) (rc68 : (Nat → Int32) → Int64 → Int64 → (Nat → Int32) → (Nat → Int32) → (Nat → Int32) → (Nat → Int32) → (Nat → Int32) → (Nat → Int32) → (Nat → Int32) → (Nat → Int32) → Option (Int32 × (Nat → Int32) × Int64 × Int64 × (Nat → Int32) × (Nat → Int32) × (Nat → Int32) × (Nat → Int32) × (Nat → Int32) × (Nat → Int32) × (Nat → Int32) × (Nat → Int32))) (hrc68 : ∀ (f0 : Nat → Int32) (l0_31 : Int64) (l0_32 : Int64) (f1 : Nat → Int32) (f2 : Nat → Int32) (f3 : Nat → Int32) (f4 : Nat → Int32) (f5 : Nat → Int32) (f6 : Nat → Int32) (f7 : Nat → Int32) (f8 : Nat → Int32), rc68 f0 l0_31 l0_32 f1 f2 f3 f4 f5 f6 f7 f8 = some res → At_ p l e (rmX7_draw) s m args below meth c D vwCl A 5 0 0 (Qi_ below args s D vwCl A (wdX7_14 cA q0 q1 q2 q3 q4 q5 q6 q7 q8 q9 q10 q11 q12 q13 res.2.1 res.2.2.1 res.2.2.2.1 res.2.2.2.2.1 res.2.2.2.2.2.1 res.2.2.2.2.2.2.1 res.2.2.2.2.2.2.2.1 res.2.2.2.2.2.2.2.2.1 res.2.2.2.2.2.2.2.2.2.1 res.2.2.2.2.2.2.2.2.2.2.1 res.2.2.2.2.2.2.2.2.2.2.2) res.1) 68 [(0, .ref q0), (1, .long a1), (3, .int a3), (4, .int a4)] [] (wdX7_14 cA q0 q1 q2 q3 q4 q5 q6 q7 q8 q9 q10 q11 q12 q13 f0 l0_31 l0_32 f1 f2 f3 f4 f5 f6 f7 f8)) (f0 : Nat → Int32) (l0_31 : Int64) (l0_32 : Int64) (f1 : Nat → Int32) (f2 : Nat → Int32) (f3 : Nat → Int32) (f4 : Nat → Int32) (f5 : Nat → Int32) (f6 : Nat → Int32) (f7 : Nat → Int32) (f8 : Nat → Int32) (h : bfX7_draw_119 N a1 a3 a4 rc68 f0 l0_31 l0_32 f1 f2 f3 f4 f5 f6 f7 f8 = some res) : At_ p l e (rmX7_draw) s m args below meth c D vwCl A 5 0 0 (Qi_ below args s D vwCl A (wdX7_14 cA q0 q1 q2 q3 q4 q5 q6 q7 q8 q9 q10 q11 q12 q13 res.2.1 res.2.2.1 res.2.2.2.1 res.2.2.2.2.1 res.2.2.2.2.2.1 res.2.2.2.2.2.2.1 res.2.2.2.2.2.2.2.1 res.2.2.2.2.2.2.2.2.1 res.2.2.2.2.2.2.2.2.2.1 res.2.2.2.2.2.2.2.2.2.2.1 res.2.2.2.2.2.2.2.2.2.2.2) res.1) 119 [(0, .ref q0), (1, .long a1), (3, .int a3), (4, .int a4)] [] (wdX7_14 cA q0 q1 q2 q3 q4 q5 q6 q7 q8 q9 q10 q11 q12 q13 f0 l0_31 l0_32 f1 f2 f3 f4 f5 f6 f7 f8) := by
  unfold bfX7_draw_119 at h
  refine a_aload_n C0 dX7_draw_119 rfl 0 rfl ?_
  obtain ⟨f0_1, f1_2, f3_3, h_4, h⟩ := bd3_e h
  refine a_callVv C0 (wdX7_14 cA q0 q1 q2 q3 q4 q5 q6 q7 q8 q9 q10 q11 q12 q13 f0_1 l0_31 l0_32 f1_2 f2 f3_3 f4 f5 f6 f7 f8) (As := []) (rest := []) (ctX7_drawEnd l D cA q0 q1 q2 q3 q4 q5 q6 q7 q8 q9 q10 q11 q12 q13 N f0 l0_31 l0_32 f1 f2 f3 f6 f8 h_4) (cwV 0 C0.1.2.2.2.2 gX7_draw_X7_drawEnd rfl rfl rfl hdX7_drawEnd ⟨Nat.le_of_ble_eq_true rfl, Nat.le_of_ble_eq_true rfl⟩) [0, 1, 2, 3, 6, 8] [4, 5, 7] [3, 4, 5, 6, 0, 1, 7, 2, 8] rfl rfl rfl rfl (by decide) rfl rfl rfl rfl rfl rfl (Nat.le_of_ble_eq_true rfl) dX7_draw_120 ⟨Nat.zero_le _, Nat.zero_le _⟩ ?_
  refine a_goto C0 68 dX7_draw_123 (by decide) ?_
  exact hrc68 f0_1 l0_31 l0_32 f1_2 f2 f3_3 f4 f5 f6 f7 f8 h
set_option maxHeartbeats 4000000 in
set_option maxRecDepth 100000 in
theorem bwX7_draw_68 {p : Program} {l : Launch} {e : Env} {s : State} {m : MethodId} {args : Array Value} {below : List Frame} {meth : Method} {c : Code} {D : va_G} {A : Nat → Prop} {cA : ClassId} {q0 q1 q2 q3 q4 q5 q6 q7 q8 q9 q10 q11 q12 q13 : Nat} {res : Int32 × (Nat → Int32) × Int64 × Int64 × (Nat → Int32) × (Nat → Int32) × (Nat → Int32) × (Nat → Int32) × (Nat → Int32) × (Nat → Int32) × (Nat → Int32) × (Nat → Int32)} (C0 : cx p s m args meth c cX7_draw 5 RX7 wsX7_draw (some .int) D vwCl [(cA, .int)] A) (N : Nat) (a1 : Int64) (a3 : Int32) (a4 : Int32) : ∀ (n : Nat) (f0 : Nat → Int32) (l0_31 : Int64) (l0_32 : Int64) (f1 : Nat → Int32) (f2 : Nat → Int32) (f3 : Nat → Int32) (f4 : Nat → Int32) (f5 : Nat → Int32) (f6 : Nat → Int32) (f7 : Nat → Int32) (f8 : Nat → Int32), bfX7_draw_68 N a1 a3 a4  n f0 l0_31 l0_32 f1 f2 f3 f4 f5 f6 f7 f8 = some res → At_ p l e (rmX7_draw) s m args below meth c D vwCl A 5 0 0 (Qi_ below args s D vwCl A (wdX7_14 cA q0 q1 q2 q3 q4 q5 q6 q7 q8 q9 q10 q11 q12 q13 res.2.1 res.2.2.1 res.2.2.2.1 res.2.2.2.2.1 res.2.2.2.2.2.1 res.2.2.2.2.2.2.1 res.2.2.2.2.2.2.2.1 res.2.2.2.2.2.2.2.2.1 res.2.2.2.2.2.2.2.2.2.1 res.2.2.2.2.2.2.2.2.2.2.1 res.2.2.2.2.2.2.2.2.2.2.2) res.1) 68 [(0, .ref q0), (1, .long a1), (3, .int a3), (4, .int a4)] [] (wdX7_14 cA q0 q1 q2 q3 q4 q5 q6 q7 q8 q9 q10 q11 q12 q13 f0 l0_31 l0_32 f1 f2 f3 f4 f5 f6 f7 f8) := by
  intro n
  induction n with
  | zero => intro f0 l0_31 l0_32 f1 f2 f3 f4 f5 f6 f7 f8 h; cases h
  | succ n hrc68 =>
    intro f0 l0_31 l0_32 f1 f2 f3 f4 f5 f6 f7 f8 h
    replace h : bFX7_draw_68 N a1 a3 a4  (bfX7_draw_68 N a1 a3 a4  n) f0 l0_31 l0_32 f1 f2 f3 f4 f5 f6 f7 f8 = some res := h
    generalize bfX7_draw_68 N a1 a3 a4  n = rc68 at h hrc68
    unfold bFX7_draw_68 at h
    refine a_aload_n C0 dX7_draw_68 rfl 0 rfl ?_
    refine a_get C0 inX7_draw_X7 0 rfl rfl 2 (by decide) lkX7_draw_66 (fun _ h9 => h9) (.int (f0 2)) rfl dX7_draw_69 ?_
    refine a_if_lt C0 126 dX7_draw_72 (by decide) (fun c_5 => ?_) (fun c_5 => ?_)
    · have h := it_ c_5 h
      refine a_aload_n C0 dX7_draw_126 rfl 0 rfl ?_
      refine a_get C0 inX7_draw_X7 0 rfl rfl 1 (by decide) lkX7_draw_53 (fun _ h9 => h9) (.int (f0 1)) rfl dX7_draw_127 ?_
      obtain rfl := Option.some.inj h
      exact a_iret C0 dX7_draw_130 rfl rfl
    · have h := ie_ c_5 h
      refine a_aload_n C0 dX7_draw_75 rfl 0 rfl ?_
      refine a_get C0 inX7_draw_X7 0 rfl rfl 5 (by decide) lkX7_draw_19 (fun _ h9 => h9) (.ref q4) rfl dX7_draw_76 ?_
      refine a_aload_n C0 dX7_draw_79 rfl 0 rfl ?_
      refine a_get C0 inX7_draw_X7 0 rfl rfl 2 (by decide) lkX7_draw_66 (fun _ h9 => h9) (.int (f0 2)) rfl dX7_draw_80 ?_
      obtain ⟨g_6, h⟩ := gi_e h
      refine a_iald C0 4 0 rfl rfl g_6 dX7_draw_83 ?_
      refine a_if_le C0 119 dX7_draw_84 (by decide) (fun c_7 => ?_) (fun c_7 => ?_)
      · have h := it_ c_7 h
        exact bwX7_draw_119 C0 N a1 a3 a4 rc68 hrc68 f0 l0_31 l0_32 f1 f2 f3 f4 f5 f6 f7 f8 h
      · have h := ie_ c_7 h
        refine a_aload_n C0 dX7_draw_87 rfl 0 rfl ?_
        refine a_get C0 inX7_draw_X7 0 rfl rfl 1 (by decide) lkX7_draw_53 (fun _ h9 => h9) (.int (f0 1)) rfl dX7_draw_88 ?_
        refine a_bipush C0 (100 : Int32) dX7_draw_91 (by decide) ?_
        refine a_icmp_ge C0 119 dX7_draw_93 (by decide) (fun c_8 => ?_) (fun c_8 => ?_)
        · have h := it_ c_8 h
          exact bwX7_draw_119 C0 N a1 a3 a4 rc68 hrc68 f0 l0_31 l0_32 f1 f2 f3 f4 f5 f6 f7 f8 h
        · have h := ie_ c_8 h
          refine a_aload_n C0 dX7_draw_96 rfl 0 rfl ?_
          refine a_get C0 inX7_draw_X7 0 rfl rfl 5 (by decide) lkX7_draw_19 (fun _ h9 => h9) (.ref q4) rfl dX7_draw_97 ?_
          refine a_aload_n C0 dX7_draw_100 rfl 0 rfl ?_
          refine a_get C0 inX7_draw_X7 0 rfl rfl 2 (by decide) lkX7_draw_66 (fun _ h9 => h9) (.int (f0 2)) rfl dX7_draw_101 ?_
          refine a_dup2 C0 dX7_draw_104 rfl rfl ?_
          obtain ⟨g_9, h⟩ := gi_e h
          refine a_iald C0 4 0 rfl rfl g_9 dX7_draw_105 ?_
          refine a_iconst C0 (1 : Int32) dX7_draw_106 (by decide) ?_
          refine a_isub C0 dX7_draw_107 ?_
          obtain ⟨g_10, h⟩ := gi_e h
          obtain ⟨f4_11, ef4_11, h⟩ := lt_e h
          refine a_iast C0 4 0 rfl rfl g_10 dX7_draw_108 (wdX7_14 cA q0 q1 q2 q3 q4 q5 q6 q7 q8 q9 q10 q11 q12 q13 f0 l0_31 l0_32 f1 f2 f3 f4_11 f5 f6 f7 f8) (by subst ef4_11; rfl) ?_
          refine a_aload_n C0 dX7_draw_109 rfl 0 rfl ?_
          refine a_iload_n C0 dX7_draw_110 rfl 2 rfl ?_
          refine a_iload C0 dX7_draw_111 3 rfl ?_
          obtain ⟨f0_12, l0_32_13, f1_14, f2_15, f3_16, f4_17, f5_18, f6_19, f7_20, f8_21, h_22, h⟩ := bd10_e h
          refine a_callVv C0 (wdX7_14 cA q0 q1 q2 q3 q4 q5 q6 q7 q8 q9 q10 q11 q12 q13 f0_12 l0_31 l0_32_13 f1_14 f2_15 f3_16 f4_17 f5_18 f6_19 f7_20 f8_21) (As := [.int a3, .int a4]) (rest := []) (ctX7_drawItem l D cA q0 q1 q2 q3 q4 q5 q6 q7 q8 q9 q10 q11 q12 q13 N a3 a4 f0 l0_31 l0_32 f1 f2 f3 f4_11 f5 f6 f7 f8 h_22) (cwV 2 C0.1.2.2.2.2 gX7_draw_X7_drawItem rfl rfl rfl hdX7_drawItem ⟨Nat.le_of_ble_eq_true rfl, Nat.le_of_ble_eq_true rfl⟩) [0, 1, 2, 3, 4, 5, 6, 7, 8] [] [0, 1, 2, 3, 4, 5, 6, 7, 8] rfl rfl rfl rfl (by decide) rfl rfl rfl rfl rfl rfl (Nat.le_of_ble_eq_true rfl) dX7_draw_113 ⟨Nat.zero_le _, Nat.zero_le _⟩ ?_
          refine a_goto C0 68 dX7_draw_116 (by decide) ?_
          exact hrc68 f0_12 l0_31 l0_32_13 f1_14 f2_15 f3_16 f4_17 f5_18 f6_19 f7_20 f8_21 h
set_option maxHeartbeats 4000000 in
set_option maxRecDepth 100000 in
theorem bwX7_draw {p : Program} {l : Launch} {e : Env} {s : State} {m : MethodId} {args : Array Value} {below : List Frame} {meth : Method} {c : Code} {D : va_G} {A : Nat → Prop} {cA : ClassId} {q0 q1 q2 q3 q4 q5 q6 q7 q8 q9 q10 q11 q12 q13 : Nat} {res : Int32 × (Nat → Int32) × Int64 × Int64 × (Nat → Int32) × (Nat → Int32) × (Nat → Int32) × (Nat → Int32) × (Nat → Int32) × (Nat → Int32) × (Nat → Int32) × (Nat → Int32)} (C0 : cx p s m args meth c cX7_draw 5 RX7 wsX7_draw (some .int) D vwCl [(cA, .int)] A) (N : Nat) (a1 : Int64) (a3 : Int32) (a4 : Int32) (f0 : Nat → Int32) (l0_31 : Int64) (l0_32 : Int64) (f1 : Nat → Int32) (f2 : Nat → Int32) (f3 : Nat → Int32) (f4 : Nat → Int32) (f5 : Nat → Int32) (f6 : Nat → Int32) (f7 : Nat → Int32) (f8 : Nat → Int32) (h : pX7_draw N a1 a3 a4 f0 l0_31 l0_32 f1 f2 f3 f4 f5 f6 f7 f8 = some res) : At_ p l e (rmX7_draw) s m args below meth c D vwCl A 5 0 0 (Qi_ below args s D vwCl A (wdX7_14 cA q0 q1 q2 q3 q4 q5 q6 q7 q8 q9 q10 q11 q12 q13 res.2.1 res.2.2.1 res.2.2.2.1 res.2.2.2.2.1 res.2.2.2.2.2.1 res.2.2.2.2.2.2.1 res.2.2.2.2.2.2.2.1 res.2.2.2.2.2.2.2.2.1 res.2.2.2.2.2.2.2.2.2.1 res.2.2.2.2.2.2.2.2.2.2.1 res.2.2.2.2.2.2.2.2.2.2.2) res.1) 0 [(0, .ref q0), (1, .long a1), (3, .int a3), (4, .int a4)] [] (wdX7_14 cA q0 q1 q2 q3 q4 q5 q6 q7 q8 q9 q10 q11 q12 q13 f0 l0_31 l0_32 f1 f2 f3 f4 f5 f6 f7 f8) := by
  unfold pX7_draw at h
  refine a_iload_n C0 dX7_draw_0 rfl 2 rfl ?_
  refine a_iconst C0 (0 : Int32) dX7_draw_1 (by decide) ?_
  refine a_iconst C0 (2 : Int32) dX7_draw_2 (by decide) ?_
  obtain ⟨r_23, h_24, h⟩ := bd1_e h
  refine a_callSi C0 (wdX7_14 cA q0 q1 q2 q3 q4 q5 q6 q7 q8 q9 q10 q11 q12 q13 f0 l0_31 l0_32 f1 f2 f3 f4 f5 f6 f7 f8) (As := [.int a3, .int (0 : Int32), .int (2 : Int32)]) (rest := []) (ctX7_in l D cA a3 (0 : Int32) (2 : Int32) h_24) (cwS 3 C0.1.2.2.2.2 gX7_draw_X7_in rfl rfl rfl hdX7_in ⟨Nat.le_of_ble_eq_true rfl, Nat.le_of_ble_eq_true rfl⟩) [] [0, 1, 2, 3, 4, 5, 6, 7, 8] [0, 1, 2, 3, 4, 5, 6, 7, 8] rfl rfl rfl rfl (by decide) rfl rfl rfl rfl (Nat.le_of_ble_eq_true rfl) dX7_draw_3 ⟨Nat.zero_le _, Nat.zero_le _⟩ ?_
  refine a_if_eq C0 19 dX7_draw_6 (by decide) (fun c_25 => ?_) (fun c_25 => ?_)
  · have h := it_ c_25 h
    refine a_bipush C0 (-2 : Int32) dX7_draw_19 (by decide) ?_
    obtain rfl := Option.some.inj h
    exact a_iret C0 dX7_draw_21 rfl rfl
  · have h := ie_ c_25 h
    refine a_iload C0 dX7_draw_9 3 rfl ?_
    refine a_iconst C0 (1 : Int32) dX7_draw_11 (by decide) ?_
    refine a_iconst C0 (5 : Int32) dX7_draw_12 (by decide) ?_
    obtain ⟨r_26, h_27, h⟩ := bd1_e h
    refine a_callSi C0 (wdX7_14 cA q0 q1 q2 q3 q4 q5 q6 q7 q8 q9 q10 q11 q12 q13 f0 l0_31 l0_32 f1 f2 f3 f4 f5 f6 f7 f8) (As := [.int a4, .int (1 : Int32), .int (5 : Int32)]) (rest := []) (ctX7_in l D cA a4 (1 : Int32) (5 : Int32) h_27) (cwS 3 C0.1.2.2.2.2 gX7_draw_X7_in rfl rfl rfl hdX7_in ⟨Nat.le_of_ble_eq_true rfl, Nat.le_of_ble_eq_true rfl⟩) [] [0, 1, 2, 3, 4, 5, 6, 7, 8] [0, 1, 2, 3, 4, 5, 6, 7, 8] rfl rfl rfl rfl (by decide) rfl rfl rfl rfl (Nat.le_of_ble_eq_true rfl) dX7_draw_13 ⟨Nat.zero_le _, Nat.zero_le _⟩ ?_
    refine a_if_ne C0 22 dX7_draw_16 (by decide) (fun c_28 => ?_) (fun c_28 => ?_)
    · have h := ie_ c_28 h
      refine a_aload_n C0 dX7_draw_22 rfl 0 rfl ?_
      refine a_lload_n C0 dX7_draw_23 rfl 1 rfl ?_
      refine a_put C0 inX7_draw_X7 tyX7 tyX7_ok nmX7 0 rfl rfl 31 (by decide) lkX7_draw_160 (fun _ h9 => h9) rfl (ty := .long) (v := .long a1) (by decide +kernel) rfl rfl (Nat.le_of_ble_eq_true rfl) dX7_draw_24 (wdX7_14 cA q0 q1 q2 q3 q4 q5 q6 q7 q8 q9 q10 q11 q12 q13 f0 a1 l0_32 f1 f2 f3 f4 f5 f6 f7 f8) rfl ?_
      refine a_aload_n C0 dX7_draw_27 rfl 0 rfl ?_
      refine a_lconst C0 (0 : Int64) dX7_draw_28 (by decide) ?_
      refine a_put C0 inX7_draw_X7 tyX7 tyX7_ok nmX7 0 rfl rfl 32 (by decide) lkX7_draw_156 (fun _ h9 => h9) rfl (ty := .long) (v := .long (0 : Int64)) (by decide +kernel) rfl rfl (Nat.le_of_ble_eq_true rfl) dX7_draw_29 (wdX7_14 cA q0 q1 q2 q3 q4 q5 q6 q7 q8 q9 q10 q11 q12 q13 f0 a1 (0 : Int64) f1 f2 f3 f4 f5 f6 f7 f8) rfl ?_
      refine a_aload_n C0 dX7_draw_32 rfl 0 rfl ?_
      refine a_iconst C0 (0 : Int32) dX7_draw_33 (by decide) ?_
      obtain ⟨f0_29, ef0_29, h⟩ := lt_e h
      refine a_put C0 inX7_draw_X7 tyX7 tyX7_ok nmX7 0 rfl rfl 1 (by decide) lkX7_draw_53 (fun _ h9 => h9) rfl (ty := .int) (v := .int (0 : Int32)) (by decide +kernel) rfl rfl (Nat.le_of_ble_eq_true rfl) dX7_draw_34 (wdX7_14 cA q0 q1 q2 q3 q4 q5 q6 q7 q8 q9 q10 q11 q12 q13 f0_29 a1 (0 : Int64) f1 f2 f3 f4 f5 f6 f7 f8) (by subst ef0_29; rfl) ?_
      refine a_aload_n C0 dX7_draw_37 rfl 0 rfl ?_
      refine a_iconst C0 (0 : Int32) dX7_draw_38 (by decide) ?_
      obtain ⟨f0_30, ef0_30, h⟩ := lt_e h
      refine a_put C0 inX7_draw_X7 tyX7 tyX7_ok nmX7 0 rfl rfl 2 (by decide) lkX7_draw_66 (fun _ h9 => h9) rfl (ty := .int) (v := .int (0 : Int32)) (by decide +kernel) rfl rfl (Nat.le_of_ble_eq_true rfl) dX7_draw_39 (wdX7_14 cA q0 q1 q2 q3 q4 q5 q6 q7 q8 q9 q10 q11 q12 q13 f0_30 a1 (0 : Int64) f1 f2 f3 f4 f5 f6 f7 f8) (by subst ef0_30; rfl) ?_
      refine a_aload_n C0 dX7_draw_42 rfl 0 rfl ?_
      refine a_iconst C0 (0 : Int32) dX7_draw_43 (by decide) ?_
      obtain ⟨f0_31, ef0_31, h⟩ := lt_e h
      refine a_put C0 inX7_draw_X7 tyX7 tyX7_ok nmX7 0 rfl rfl 10 (by decide) lkX7_draw_94 (fun _ h9 => h9) rfl (ty := .int) (v := .int (0 : Int32)) (by decide +kernel) rfl rfl (Nat.le_of_ble_eq_true rfl) dX7_draw_44 (wdX7_14 cA q0 q1 q2 q3 q4 q5 q6 q7 q8 q9 q10 q11 q12 q13 f0_31 a1 (0 : Int64) f1 f2 f3 f4 f5 f6 f7 f8) (by subst ef0_31; rfl) ?_
      refine a_aload_n C0 dX7_draw_47 rfl 0 rfl ?_
      refine a_iconst C0 (0 : Int32) dX7_draw_48 (by decide) ?_
      refine a_iconst C0 (-1 : Int32) dX7_draw_49 (by decide) ?_
      refine a_iconst C0 (-1 : Int32) dX7_draw_50 (by decide) ?_
      obtain ⟨f0_32, f2_33, f3_34, f4_35, f5_36, f6_37, f7_38, h_39, h⟩ := bd7_e h
      refine a_callVv C0 (wdX7_14 cA q0 q1 q2 q3 q4 q5 q6 q7 q8 q9 q10 q11 q12 q13 f0_32 a1 (0 : Int64) f1 f2_33 f3_34 f4_35 f5_36 f6_37 f7_38 f8) (As := [.int (0 : Int32), .int (-1 : Int32), .int (-1 : Int32)]) (rest := []) (ctX7_opens l D cA q0 q1 q2 q3 q4 q5 q6 q7 q8 q9 q10 q11 q12 q13 (0 : Int32) (-1 : Int32) (-1 : Int32) f0_31 a1 (0 : Int64) f2 f3 f4 f5 f6 f7 h_39) (cwV 3 C0.1.2.2.2.2 gX7_draw_X7_opens rfl rfl rfl hdX7_opens ⟨Nat.le_of_ble_eq_true rfl, Nat.le_of_ble_eq_true rfl⟩) [0, 2, 3, 4, 5, 6, 7] [1, 8] [2, 0, 3, 4, 5, 6, 7, 8, 1] rfl rfl rfl rfl (by decide) rfl rfl rfl rfl rfl rfl (Nat.le_of_ble_eq_true rfl) dX7_draw_51 ⟨Nat.zero_le _, Nat.zero_le _⟩ ?_
      refine a_aload_n C0 dX7_draw_54 rfl 0 rfl ?_
      refine a_get C0 inX7_draw_X7 0 rfl rfl 5 (by decide) lkX7_draw_19 (fun _ h9 => h9) (.ref q4) rfl dX7_draw_55 ?_
      refine a_iconst C0 (0 : Int32) dX7_draw_58 (by decide) ?_
      refine a_iconst C0 (1 : Int32) dX7_draw_59 (by decide) ?_
      refine a_aload_n C0 dX7_draw_60 rfl 0 rfl ?_
      refine a_iload C0 dX7_draw_61 3 rfl ?_
      obtain ⟨r_40, l0_32_41, h_42, h⟩ := bd2_e h
      refine a_callVi C0 (wdX7_14 cA q0 q1 q2 q3 q4 q5 q6 q7 q8 q9 q10 q11 q12 q13 f0_32 a1 l0_32_41 f1 f2_33 f3_34 f4_35 f5_36 f6_37 f7_38 f8) (As := [.int a4]) (rest := [.int (1 : Int32), .int (0 : Int32), .ref q4]) (ctX7_pick l D cA q0 q1 q2 q3 q4 q5 q6 q7 q8 q9 q10 q11 q12 q13 a4 f0_32 a1 (0 : Int64) h_42) (cwV 1 C0.1.2.2.2.2 gX7_draw_X7_pick rfl rfl rfl hdX7_pick ⟨Nat.le_of_ble_eq_true rfl, Nat.le_of_ble_eq_true rfl⟩) [0] [1, 2, 3, 4, 5, 6, 7, 8] [8, 0, 1, 2, 3, 4, 5, 6, 7] rfl rfl rfl rfl (by decide) rfl rfl rfl rfl rfl rfl (Nat.le_of_ble_eq_true rfl) dX7_draw_63 ⟨Nat.zero_le _, Nat.zero_le _⟩ ?_
      refine a_iadd C0 dX7_draw_66 ?_
      obtain ⟨g_43, h⟩ := gi_e h
      obtain ⟨f4_44, ef4_44, h⟩ := lt_e h
      refine a_iast C0 4 0 rfl rfl g_43 dX7_draw_67 (wdX7_14 cA q0 q1 q2 q3 q4 q5 q6 q7 q8 q9 q10 q11 q12 q13 f0_32 a1 l0_32_41 f1 f2_33 f3_34 f4_44 f5_36 f6_37 f7_38 f8) (by subst ef4_44; rfl) ?_
      exact bwX7_draw_68 C0 N a1 a3 a4 N f0_32 a1 l0_32_41 f1 f2_33 f3_34 f4_44 f5_36 f6_37 f7_38 f8 h
    · have h := it_ c_28 h
      refine a_bipush C0 (-2 : Int32) dX7_draw_19 (by decide) ?_
      obtain rfl := Option.some.inj h
      exact a_iret C0 dX7_draw_21 rfl rfl
set_option maxRecDepth 100000 in
theorem ctX7_draw (l : Launch) (D : va_G) (cA : ClassId) (q0 q1 q2 q3 q4 q5 q6 q7 q8 q9 q10 q11 q12 q13 : Nat) (N : Nat) (a1 : Int64) (a3 : Int32) (a4 : Int32) (f0 : Nat → Int32) (l0_31 : Int64) (l0_32 : Int64) (f1 : Nat → Int32) (f2 : Nat → Int32) (f3 : Nat → Int32) (f4 : Nat → Int32) (f5 : Nat → Int32) (f6 : Nat → Int32) (f7 : Nat → Int32) (f8 : Nat → Int32) {res : Int32 × (Nat → Int32) × Int64 × Int64 × (Nat → Int32) × (Nat → Int32) × (Nat → Int32) × (Nat → Int32) × (Nat → Int32) × (Nat → Int32) × (Nat → Int32) × (Nat → Int32)} (h : pX7_draw N a1 a3 a4 f0 l0_31 l0_32 f1 f2 f3 f4 f5 f6 f7 f8 = some res) : Cti l yX7_draw wsX7_draw (rmX7_draw) D vwCl [(cA, .int)] [.ref q0, .long a1, .int a3, .int a4] (wdX7_14 cA q0 q1 q2 q3 q4 q5 q6 q7 q8 q9 q10 q11 q12 q13 f0 l0_31 l0_32 f1 f2 f3 f4 f5 f6 f7 f8) (wdX7_14 cA q0 q1 q2 q3 q4 q5 q6 q7 q8 q9 q10 q11 q12 q13 res.2.1 res.2.2.1 res.2.2.2.1 res.2.2.2.2.1 res.2.2.2.2.2.1 res.2.2.2.2.2.2.1 res.2.2.2.2.2.2.2.1 res.2.2.2.2.2.2.2.2.1 res.2.2.2.2.2.2.2.2.2.1 res.2.2.2.2.2.2.2.2.2.2.1 res.2.2.2.2.2.2.2.2.2.2.2) 0 0 res.1 :=
  ct_i (maxL := 5) (cc := cX7_draw) (by decide) rfl (Nat.le_of_ble_eq_true rfl) (fun p e s m below meth c C0 => bwX7_draw C0 N a1 a3 a4 f0 l0_31 l0_32 f1 f2 f3 f4 f5 f6 f7 f8 h)
/-! PackDrawerModel.plant -/
abbrev rmX7_plant : Room := { frames := 7, cells := 0, slots := 0, locals := 163 }
theorem lkX7_plant_57 : Cond.fieldLink RX7 57 RX7 (TX7 16).2.1 (TX7 16).2.2.1 ∈ wsX7_plant := by decide +kernel
theorem inX7_plant_X7 : ∀ w ∈ u_ws RX7 TX7 33, w ∈ wsX7_plant := by decide +kernel
theorem lkX7_plant_53 : Cond.fieldLink RX7 53 RX7 (TX7 1).2.1 (TX7 1).2.2.1 ∈ wsX7_plant := by decide +kernel
theorem lkX7_plant_7 : Cond.fieldLink RX7 7 RX7 (TX7 0).2.1 (TX7 0).2.2.1 ∈ wsX7_plant := by decide +kernel
theorem lkX7_plant_113 : Cond.fieldLink RX7 113 RX7 (TX7 28).2.1 (TX7 28).2.2.1 ∈ wsX7_plant := by decide +kernel
theorem lkX7_plant_110 : Cond.fieldLink RX7 110 RX7 (TX7 27).2.1 (TX7 27).2.2.1 ∈ wsX7_plant := by decide +kernel
theorem lkX7_plant_107 : Cond.fieldLink RX7 107 RX7 (TX7 26).2.1 (TX7 26).2.2.1 ∈ wsX7_plant := by decide +kernel
def bfX7_plant_228 (N : Nat) (a1 : Int32) (l0_31 : Int64) (l0_32 : Int64) (f0 : Nat → Int32) (f1 : Nat → Int32) (f2 : Nat → Int32) (f3 : Nat → Int32) (f4 : Nat → Int32) (f5 : Nat → Int32) (f6 : Nat → Int32) (f7 : Nat → Int32) (f8 : Nat → Int32) (f9 : Nat → Int32) (f10 : Nat → Int32) (f11 : Nat → Int32) : Option (Int32 × (Nat → Int32) × (Nat → Int32) × (Nat → Int32) × (Nat → Int32) × (Nat → Int32) × (Nat → Int32) × (Nat → Int32) × (Nat → Int32) × (Nat → Int32) × (Nat → Int32) × (Nat → Int32) × (Nat → Int32)) := bd11 (pX7_run N (400 : Int32) (800 : Int32) (1500 : Int32) f0 l0_31 l0_32 f1 f2 f3 f4 f5 f6 f7 f8 f9 f10 f11) (fun f0_1 f2_2 f3_3 f4_4 f5_5 f6_6 f7_7 f8_8 f9_9 f10_10 f11_11 => some ((f0_1 16), f0_1, f1, f2_2, f3_3, f4_4, f5_5, f6_6, f7_7, f8_8, f9_9, f10_10, f11_11))
def bfX7_plant_88 (N : Nat) (a1 : Int32) (l0_31 : Int64) (l0_32 : Int64) (s0 : Int32) (f0 : Nat → Int32) (f1 : Nat → Int32) (f2 : Nat → Int32) (f3 : Nat → Int32) (f4 : Nat → Int32) (f5 : Nat → Int32) (f6 : Nat → Int32) (f7 : Nat → Int32) (f8 : Nat → Int32) (f9 : Nat → Int32) (f10 : Nat → Int32) (f11 : Nat → Int32) : Option (Int32 × (Nat → Int32) × (Nat → Int32) × (Nat → Int32) × (Nat → Int32) × (Nat → Int32) × (Nat → Int32) × (Nat → Int32) × (Nat → Int32) × (Nat → Int32) × (Nat → Int32) × (Nat → Int32) × (Nat → Int32)) := if (f0 16) = 0 then if s0 = (-1 : Int32) then some ((-4 : Int32), f0, f1, f2, f3, f4, f5, f6, f7, f8, f9, f10, f11) else if a1 = (1 : Int32) then lt_ (upd f0 1 ((f0 1) - (1 : Int32))) (fun f0_16 => bfX7_plant_228 N a1 l0_31 l0_32 f0_16 f1 f2 f3 f4 f5 f6 f7 f8 f9 f10 f11) else if a1 = (2 : Int32) then gi_ (s0 + (1 : Int32)) 160 (gi_ (s0 + (1 : Int32)) 160 (lt_ (upd f1 (s0 + (1 : Int32)).toNatClampNeg (((f1 (s0 + (1 : Int32)).toNatClampNeg) + (1 : Int32)) &&& (255 : Int32))) (fun f1_20 => bfX7_plant_228 N a1 l0_31 l0_32 f0 f1_20 f2 f3 f4 f5 f6 f7 f8 f9 f10 f11))) else if a1 = (3 : Int32) then gi_ (s0 + (1 : Int32)) 160 (lt_ (upd f1 (s0 + (1 : Int32)).toNatClampNeg (255 : Int32)) (fun f1_23 => bfX7_plant_228 N a1 l0_31 l0_32 f0 f1_23 f2 f3 f4 f5 f6 f7 f8 f9 f10 f11)) else if a1 = (4 : Int32) then gi_ ((f0 1) - (1 : Int32)) 160 (gi_ ((f0 1) - (1 : Int32)) 160 (lt_ (upd f1 ((f0 1) - (1 : Int32)).toNatClampNeg ((f1 ((f0 1) - (1 : Int32)).toNatClampNeg) ^^^ (1 : Int32))) (fun f1_27 => bfX7_plant_228 N a1 l0_31 l0_32 f0 f1_27 f2 f3 f4 f5 f6 f7 f8 f9 f10 f11))) else if a1 = (5 : Int32) then bd2 (pX7_lay (7 : Int32) f0 l0_31 l0_32 f1) (fun f0_29 f1_30 => bfX7_plant_228 N a1 l0_31 l0_32 f0_29 f1_30 f2 f3 f4 f5 f6 f7 f8 f9 f10 f11) else gi_ (s0 + (1 : Int32)) 160 (lt_ (upd f1 (s0 + (1 : Int32)).toNatClampNeg (0 : Int32)) (fun f1_33 => bfX7_plant_228 N a1 l0_31 l0_32 f0 f1_33 f2 f3 f4 f5 f6 f7 f8 f9 f10 f11)) else some ((-4 : Int32), f0, f1, f2, f3, f4, f5, f6, f7, f8, f9, f10, f11)
def bfX7_plant_37 (N : Nat) (a1 : Int32) (l0_31 : Int64) (l0_32 : Int64) (f0 : Nat → Int32) (f1 : Nat → Int32) (f2 : Nat → Int32) (f3 : Nat → Int32) (f4 : Nat → Int32) (f5 : Nat → Int32) (f6 : Nat → Int32) (f7 : Nat → Int32) (f8 : Nat → Int32) (f9 : Nat → Int32) (f10 : Nat → Int32) (f11 : Nat → Int32) : Option (Int32 × (Nat → Int32) × (Nat → Int32) × (Nat → Int32) × (Nat → Int32) × (Nat → Int32) × (Nat → Int32) × (Nat → Int32) × (Nat → Int32) × (Nat → Int32) × (Nat → Int32) × (Nat → Int32) × (Nat → Int32)) := bd11 (pX7_run N (400 : Int32) (800 : Int32) (1500 : Int32) f0 l0_31 l0_32 f1 f2 f3 f4 f5 f6 f7 f8 f9 f10 f11) (fun f0_34 f2_35 f3_36 f4_37 f5_38 f6_39 f7_40 f8_41 f9_42 f10_43 f11_44 => if a1 = (2 : Int32) then bfX7_plant_88 N a1 l0_31 l0_32 (f0_34 26) f0_34 f1 f2_35 f3_36 f4_37 f5_38 f6_39 f7_40 f8_41 f9_42 f10_43 f11_44 else if a1 = (3 : Int32) then bfX7_plant_88 N a1 l0_31 l0_32 (f0_34 27) f0_34 f1 f2_35 f3_36 f4_37 f5_38 f6_39 f7_40 f8_41 f9_42 f10_43 f11_44 else if a1 = (7 : Int32) then bfX7_plant_88 N a1 l0_31 l0_32 (f0_34 28) f0_34 f1 f2_35 f3_36 f4_37 f5_38 f6_39 f7_40 f8_41 f9_42 f10_43 f11_44 else bfX7_plant_88 N a1 l0_31 l0_32 (0 : Int32) f0_34 f1 f2_35 f3_36 f4_37 f5_38 f6_39 f7_40 f8_41 f9_42 f10_43 f11_44)
def pX7_plant (N : Nat) (a1 : Int32) (f0 : Nat → Int32) (l0_31 : Int64) (l0_32 : Int64) (f1 : Nat → Int32) (f2 : Nat → Int32) (f3 : Nat → Int32) (f4 : Nat → Int32) (f5 : Nat → Int32) (f6 : Nat → Int32) (f7 : Nat → Int32) (f8 : Nat → Int32) (f9 : Nat → Int32) (f10 : Nat → Int32) (f11 : Nat → Int32) : Option (Int32 × (Nat → Int32) × (Nat → Int32) × (Nat → Int32) × (Nat → Int32) × (Nat → Int32) × (Nat → Int32) × (Nat → Int32) × (Nat → Int32) × (Nat → Int32) × (Nat → Int32) × (Nat → Int32) × (Nat → Int32)) := bd1 (pX7_in a1 (1 : Int32) (7 : Int32)) (fun r_49 => if r_49 = 0 then some ((-2 : Int32), f0, f1, f2, f3, f4, f5, f6, f7, f8, f9, f10, f11) else if a1 = (6 : Int32) then some ((-2 : Int32), f0, f1, f2, f3, f4, f5, f6, f7, f8, f9, f10, f11) else if a1 = (5 : Int32) then if (f0 1) = (160 : Int32) then some ((-3 : Int32), f0, f1, f2, f3, f4, f5, f6, f7, f8, f9, f10, f11) else bfX7_plant_37 N a1 l0_31 l0_32 f0 f1 f2 f3 f4 f5 f6 f7 f8 f9 f10 f11 else bfX7_plant_37 N a1 l0_31 l0_32 f0 f1 f2 f3 f4 f5 f6 f7 f8 f9 f10 f11)
set_option maxHeartbeats 4000000 in
set_option maxRecDepth 100000 in
theorem bwX7_plant_228 {p : Program} {l : Launch} {e : Env} {s : State} {m : MethodId} {args : Array Value} {below : List Frame} {meth : Method} {c : Code} {D : va_G} {A : Nat → Prop} {cA : ClassId} {q0 q1 q2 q3 q4 q5 q6 q7 q8 q9 q10 q11 q12 q13 : Nat} {res : Int32 × (Nat → Int32) × (Nat → Int32) × (Nat → Int32) × (Nat → Int32) × (Nat → Int32) × (Nat → Int32) × (Nat → Int32) × (Nat → Int32) × (Nat → Int32) × (Nat → Int32) × (Nat → Int32) × (Nat → Int32)} (C0 : cx p s m args meth c cX7_plant 3 RX7 wsX7_plant (some .int) D vwCl [(cA, .int)] A) (N : Nat) (a1 : Int32) (l0_31 : Int64) (l0_32 : Int64) (f0 : Nat → Int32) (f1 : Nat → Int32) (f2 : Nat → Int32) (f3 : Nat → Int32) (f4 : Nat → Int32) (f5 : Nat → Int32) (f6 : Nat → Int32) (f7 : Nat → Int32) (f8 : Nat → Int32) (f9 : Nat → Int32) (f10 : Nat → Int32) (f11 : Nat → Int32) (h : bfX7_plant_228 N a1 l0_31 l0_32  f0 f1 f2 f3 f4 f5 f6 f7 f8 f9 f10 f11 = some res) : At_ p l e (rmX7_plant) s m args below meth c D vwCl A 3 0 0 (Qi_ below args s D vwCl A (wdX7_11 cA q0 q1 q2 q3 q4 q5 q6 q7 q8 q9 q10 q11 q12 q13 res.2.1 l0_31 l0_32 res.2.2.1 res.2.2.2.1 res.2.2.2.2.1 res.2.2.2.2.2.1 res.2.2.2.2.2.2.1 res.2.2.2.2.2.2.2.1 res.2.2.2.2.2.2.2.2.1 res.2.2.2.2.2.2.2.2.2.1 res.2.2.2.2.2.2.2.2.2.2.1 res.2.2.2.2.2.2.2.2.2.2.2.1 res.2.2.2.2.2.2.2.2.2.2.2.2) res.1) 228 [(0, .ref q0), (1, .int a1)] [] (wdX7_11 cA q0 q1 q2 q3 q4 q5 q6 q7 q8 q9 q10 q11 q12 q13 f0 l0_31 l0_32 f1 f2 f3 f4 f5 f6 f7 f8 f9 f10 f11) := by
  unfold bfX7_plant_228 at h
  refine a_aload_n C0 dX7_plant_228 rfl 0 rfl ?_
  refine a_sipush C0 (400 : Int32) dX7_plant_229 (by decide) ?_
  refine a_sipush C0 (800 : Int32) dX7_plant_232 (by decide) ?_
  refine a_sipush C0 (1500 : Int32) dX7_plant_235 (by decide) ?_
  obtain ⟨f0_1, f2_2, f3_3, f4_4, f5_5, f6_6, f7_7, f8_8, f9_9, f10_10, f11_11, h_12, h⟩ := bd11_e h
  refine a_callVv C0 (wdX7_11 cA q0 q1 q2 q3 q4 q5 q6 q7 q8 q9 q10 q11 q12 q13 f0_1 l0_31 l0_32 f1 f2_2 f3_3 f4_4 f5_5 f6_6 f7_7 f8_8 f9_9 f10_10 f11_11) (As := [.int (400 : Int32), .int (800 : Int32), .int (1500 : Int32)]) (rest := []) (ctX7_run l D cA q0 q1 q2 q3 q4 q5 q6 q7 q8 q9 q10 q11 q12 q13 N (400 : Int32) (800 : Int32) (1500 : Int32) f0 l0_31 l0_32 f1 f2 f3 f4 f5 f6 f7 f8 f9 f10 f11 h_12) (cwV 3 C0.1.2.2.2.2 gX7_plant_X7_run rfl rfl rfl hdX7_run ⟨Nat.le_of_ble_eq_true rfl, Nat.le_of_ble_eq_true rfl⟩) [0, 1, 2, 3, 4, 5, 6, 7, 8, 9, 10, 11] [] [0, 1, 2, 3, 4, 5, 6, 7, 8, 9, 10, 11] rfl rfl rfl rfl (by decide) rfl rfl rfl rfl rfl rfl (Nat.le_of_ble_eq_true rfl) dX7_plant_238 ⟨Nat.zero_le _, Nat.zero_le _⟩ ?_
  refine a_aload_n C0 dX7_plant_241 rfl 0 rfl ?_
  refine a_get C0 inX7_plant_X7 0 rfl rfl 16 (by decide) lkX7_plant_57 (fun _ h9 => h9) (.int (f0_1 16)) rfl dX7_plant_242 ?_
  obtain rfl := Option.some.inj h
  exact a_iret C0 dX7_plant_245 rfl rfl
set_option maxHeartbeats 4000000 in
set_option maxRecDepth 100000 in
theorem bwX7_plant_88 {p : Program} {l : Launch} {e : Env} {s : State} {m : MethodId} {args : Array Value} {below : List Frame} {meth : Method} {c : Code} {D : va_G} {A : Nat → Prop} {cA : ClassId} {q0 q1 q2 q3 q4 q5 q6 q7 q8 q9 q10 q11 q12 q13 : Nat} {res : Int32 × (Nat → Int32) × (Nat → Int32) × (Nat → Int32) × (Nat → Int32) × (Nat → Int32) × (Nat → Int32) × (Nat → Int32) × (Nat → Int32) × (Nat → Int32) × (Nat → Int32) × (Nat → Int32) × (Nat → Int32)} (C0 : cx p s m args meth c cX7_plant 3 RX7 wsX7_plant (some .int) D vwCl [(cA, .int)] A) (N : Nat) (a1 : Int32) (l0_31 : Int64) (l0_32 : Int64) (s0 : Int32) (f0 : Nat → Int32) (f1 : Nat → Int32) (f2 : Nat → Int32) (f3 : Nat → Int32) (f4 : Nat → Int32) (f5 : Nat → Int32) (f6 : Nat → Int32) (f7 : Nat → Int32) (f8 : Nat → Int32) (f9 : Nat → Int32) (f10 : Nat → Int32) (f11 : Nat → Int32) (h : bfX7_plant_88 N a1 l0_31 l0_32  s0 f0 f1 f2 f3 f4 f5 f6 f7 f8 f9 f10 f11 = some res) : At_ p l e (rmX7_plant) s m args below meth c D vwCl A 3 0 0 (Qi_ below args s D vwCl A (wdX7_11 cA q0 q1 q2 q3 q4 q5 q6 q7 q8 q9 q10 q11 q12 q13 res.2.1 l0_31 l0_32 res.2.2.1 res.2.2.2.1 res.2.2.2.2.1 res.2.2.2.2.2.1 res.2.2.2.2.2.2.1 res.2.2.2.2.2.2.2.1 res.2.2.2.2.2.2.2.2.1 res.2.2.2.2.2.2.2.2.2.1 res.2.2.2.2.2.2.2.2.2.2.1 res.2.2.2.2.2.2.2.2.2.2.2.1 res.2.2.2.2.2.2.2.2.2.2.2.2) res.1) 88 [(0, .ref q0), (1, .int a1)] [.int s0] (wdX7_11 cA q0 q1 q2 q3 q4 q5 q6 q7 q8 q9 q10 q11 q12 q13 f0 l0_31 l0_32 f1 f2 f3 f4 f5 f6 f7 f8 f9 f10 f11) := by
  unfold bfX7_plant_88 at h
  refine a_istore_n C0 [(2, .int s0), (0, .ref q0), (1, .int a1)] dX7_plant_88 rfl (by decide) rfl ?_
  refine a_aload_n C0 dX7_plant_89 rfl 1 rfl ?_
  refine a_get C0 inX7_plant_X7 0 rfl rfl 16 (by decide) lkX7_plant_57 (fun _ h9 => h9) (.int (f0 16)) rfl dX7_plant_90 ?_
  refine a_if_ne C0 101 dX7_plant_93 (by decide) (fun c_13 => ?_) (fun c_13 => ?_)
  · have h := ie_ c_13 h
    refine a_bipush C0 (-4 : Int32) dX7_plant_101 (by decide) ?_
    obtain rfl := Option.some.inj h
    exact a_iret C0 dX7_plant_103 rfl rfl
  · have h := it_ c_13 h
    refine a_iload_n C0 dX7_plant_96 rfl 0 rfl ?_
    refine a_iconst C0 (-1 : Int32) dX7_plant_97 (by decide) ?_
    refine a_icmp_ne C0 104 dX7_plant_98 (by decide) (fun c_14 => ?_) (fun c_14 => ?_)
    · have h := ie_ c_14 h
      refine a_iload_n C0 dX7_plant_104 rfl 2 rfl ?_
      by_cases c_15 : a1 = (1 : Int32)
      · have h := it_ c_15 h
        refine a_tableIn C0 140 dX7_plant_105 (by rw [c_15]; decide) (by rw [c_15]; decide) (by rw [c_15]; rfl) (by decide) ?_
        refine a_aload_n C0 dX7_plant_140 rfl 1 rfl ?_
        refine a_dup C0 dX7_plant_141 rfl ?_
        refine a_get C0 inX7_plant_X7 0 rfl rfl 1 (by decide) lkX7_plant_53 (fun _ h9 => h9) (.int (f0 1)) rfl dX7_plant_142 ?_
        refine a_iconst C0 (1 : Int32) dX7_plant_145 (by decide) ?_
        refine a_isub C0 dX7_plant_146 ?_
        obtain ⟨f0_16, ef0_16, h⟩ := lt_e h
        refine a_put C0 inX7_plant_X7 tyX7 tyX7_ok nmX7 0 rfl rfl 1 (by decide) lkX7_plant_53 (fun _ h9 => h9) rfl (ty := .int) (v := .int ((f0 1) - (1 : Int32))) (by decide +kernel) rfl rfl (Nat.le_of_ble_eq_true rfl) dX7_plant_147 (wdX7_11 cA q0 q1 q2 q3 q4 q5 q6 q7 q8 q9 q10 q11 q12 q13 f0_16 l0_31 l0_32 f1 f2 f3 f4 f5 f6 f7 f8 f9 f10 f11) (by subst ef0_16; rfl) ?_
        refine a_goto C0 228 dX7_plant_150 (by decide) ?_
        refine a_lv [1, 2] (lv' := [(0, .ref q0), (1, .int a1)]) rfl ?_
        exact bwX7_plant_228 C0 N a1 l0_31 l0_32 f0_16 f1 f2 f3 f4 f5 f6 f7 f8 f9 f10 f11 h
      · have h := ie_ c_15 h
        by_cases c_17 : a1 = (2 : Int32)
        · have h := it_ c_17 h
          refine a_tableIn C0 153 dX7_plant_105 (by rw [c_17]; decide) (by rw [c_17]; decide) (by rw [c_17]; rfl) (by decide) ?_
          refine a_aload_n C0 dX7_plant_153 rfl 1 rfl ?_
          refine a_get C0 inX7_plant_X7 0 rfl rfl 0 (by decide) lkX7_plant_7 (fun _ h9 => h9) (.ref q1) rfl dX7_plant_154 ?_
          refine a_iload_n C0 dX7_plant_157 rfl 0 rfl ?_
          refine a_iconst C0 (1 : Int32) dX7_plant_158 (by decide) ?_
          refine a_iadd C0 dX7_plant_159 ?_
          refine a_aload_n C0 dX7_plant_160 rfl 1 rfl ?_
          refine a_get C0 inX7_plant_X7 0 rfl rfl 0 (by decide) lkX7_plant_7 (fun _ h9 => h9) (.ref q1) rfl dX7_plant_161 ?_
          refine a_iload_n C0 dX7_plant_164 rfl 0 rfl ?_
          refine a_iconst C0 (1 : Int32) dX7_plant_165 (by decide) ?_
          refine a_iadd C0 dX7_plant_166 ?_
          obtain ⟨g_18, h⟩ := gi_e h
          refine a_iald C0 1 0 rfl rfl g_18 dX7_plant_167 ?_
          refine a_iconst C0 (1 : Int32) dX7_plant_168 (by decide) ?_
          refine a_iadd C0 dX7_plant_169 ?_
          refine a_sipush C0 (255 : Int32) dX7_plant_170 (by decide) ?_
          refine a_iand C0 dX7_plant_173 ?_
          obtain ⟨g_19, h⟩ := gi_e h
          obtain ⟨f1_20, ef1_20, h⟩ := lt_e h
          refine a_iast C0 1 0 rfl rfl g_19 dX7_plant_174 (wdX7_11 cA q0 q1 q2 q3 q4 q5 q6 q7 q8 q9 q10 q11 q12 q13 f0 l0_31 l0_32 f1_20 f2 f3 f4 f5 f6 f7 f8 f9 f10 f11) (by subst ef1_20; rfl) ?_
          refine a_goto C0 228 dX7_plant_175 (by decide) ?_
          refine a_lv [1, 2] (lv' := [(0, .ref q0), (1, .int a1)]) rfl ?_
          exact bwX7_plant_228 C0 N a1 l0_31 l0_32 f0 f1_20 f2 f3 f4 f5 f6 f7 f8 f9 f10 f11 h
        · have h := ie_ c_17 h
          by_cases c_21 : a1 = (3 : Int32)
          · have h := it_ c_21 h
            refine a_tableIn C0 178 dX7_plant_105 (by rw [c_21]; decide) (by rw [c_21]; decide) (by rw [c_21]; rfl) (by decide) ?_
            refine a_aload_n C0 dX7_plant_178 rfl 1 rfl ?_
            refine a_get C0 inX7_plant_X7 0 rfl rfl 0 (by decide) lkX7_plant_7 (fun _ h9 => h9) (.ref q1) rfl dX7_plant_179 ?_
            refine a_iload_n C0 dX7_plant_182 rfl 0 rfl ?_
            refine a_iconst C0 (1 : Int32) dX7_plant_183 (by decide) ?_
            refine a_iadd C0 dX7_plant_184 ?_
            refine a_sipush C0 (255 : Int32) dX7_plant_185 (by decide) ?_
            obtain ⟨g_22, h⟩ := gi_e h
            obtain ⟨f1_23, ef1_23, h⟩ := lt_e h
            refine a_iast C0 1 0 rfl rfl g_22 dX7_plant_188 (wdX7_11 cA q0 q1 q2 q3 q4 q5 q6 q7 q8 q9 q10 q11 q12 q13 f0 l0_31 l0_32 f1_23 f2 f3 f4 f5 f6 f7 f8 f9 f10 f11) (by subst ef1_23; rfl) ?_
            refine a_goto C0 228 dX7_plant_189 (by decide) ?_
            refine a_lv [1, 2] (lv' := [(0, .ref q0), (1, .int a1)]) rfl ?_
            exact bwX7_plant_228 C0 N a1 l0_31 l0_32 f0 f1_23 f2 f3 f4 f5 f6 f7 f8 f9 f10 f11 h
          · have h := ie_ c_21 h
            by_cases c_24 : a1 = (4 : Int32)
            · have h := it_ c_24 h
              refine a_tableIn C0 192 dX7_plant_105 (by rw [c_24]; decide) (by rw [c_24]; decide) (by rw [c_24]; rfl) (by decide) ?_
              refine a_aload_n C0 dX7_plant_192 rfl 1 rfl ?_
              refine a_get C0 inX7_plant_X7 0 rfl rfl 0 (by decide) lkX7_plant_7 (fun _ h9 => h9) (.ref q1) rfl dX7_plant_193 ?_
              refine a_aload_n C0 dX7_plant_196 rfl 1 rfl ?_
              refine a_get C0 inX7_plant_X7 0 rfl rfl 1 (by decide) lkX7_plant_53 (fun _ h9 => h9) (.int (f0 1)) rfl dX7_plant_197 ?_
              refine a_iconst C0 (1 : Int32) dX7_plant_200 (by decide) ?_
              refine a_isub C0 dX7_plant_201 ?_
              refine a_dup2 C0 dX7_plant_202 rfl rfl ?_
              obtain ⟨g_25, h⟩ := gi_e h
              refine a_iald C0 1 0 rfl rfl g_25 dX7_plant_203 ?_
              refine a_iconst C0 (1 : Int32) dX7_plant_204 (by decide) ?_
              refine a_ixor C0 dX7_plant_205 ?_
              obtain ⟨g_26, h⟩ := gi_e h
              obtain ⟨f1_27, ef1_27, h⟩ := lt_e h
              refine a_iast C0 1 0 rfl rfl g_26 dX7_plant_206 (wdX7_11 cA q0 q1 q2 q3 q4 q5 q6 q7 q8 q9 q10 q11 q12 q13 f0 l0_31 l0_32 f1_27 f2 f3 f4 f5 f6 f7 f8 f9 f10 f11) (by subst ef1_27; rfl) ?_
              refine a_goto C0 228 dX7_plant_207 (by decide) ?_
              refine a_lv [1, 2] (lv' := [(0, .ref q0), (1, .int a1)]) rfl ?_
              exact bwX7_plant_228 C0 N a1 l0_31 l0_32 f0 f1_27 f2 f3 f4 f5 f6 f7 f8 f9 f10 f11 h
            · have h := ie_ c_24 h
              by_cases c_28 : a1 = (5 : Int32)
              · have h := it_ c_28 h
                refine a_tableIn C0 210 dX7_plant_105 (by rw [c_28]; decide) (by rw [c_28]; decide) (by rw [c_28]; rfl) (by decide) ?_
                refine a_aload_n C0 dX7_plant_210 rfl 1 rfl ?_
                refine a_bipush C0 (7 : Int32) dX7_plant_211 (by decide) ?_
                obtain ⟨f0_29, f1_30, h_31, h⟩ := bd2_e h
                refine a_callVv C0 (wdX7_11 cA q0 q1 q2 q3 q4 q5 q6 q7 q8 q9 q10 q11 q12 q13 f0_29 l0_31 l0_32 f1_30 f2 f3 f4 f5 f6 f7 f8 f9 f10 f11) (As := [.int (7 : Int32)]) (rest := []) (ctX7_lay l D cA q0 q1 q2 q3 q4 q5 q6 q7 q8 q9 q10 q11 q12 q13 (7 : Int32) f0 l0_31 l0_32 f1 h_31) (cwV 1 C0.1.2.2.2.2 gX7_plant_X7_lay rfl rfl rfl hdX7_lay ⟨Nat.le_of_ble_eq_true rfl, Nat.le_of_ble_eq_true rfl⟩) [0, 1] [2, 3, 4, 5, 6, 7, 8, 9, 10, 11] [10, 11, 0, 1, 2, 3, 4, 5, 6, 7, 8, 9] rfl rfl rfl rfl (by decide) rfl rfl rfl rfl rfl rfl (Nat.le_of_ble_eq_true rfl) dX7_plant_213 ⟨Nat.zero_le _, Nat.zero_le _⟩ ?_
                refine a_goto C0 228 dX7_plant_216 (by decide) ?_
                refine a_lv [1, 2] (lv' := [(0, .ref q0), (1, .int a1)]) rfl ?_
                exact bwX7_plant_228 C0 N a1 l0_31 l0_32 f0_29 f1_30 f2 f3 f4 f5 f6 f7 f8 f9 f10 f11 h
              · have h := ie_ c_28 h
                have hsw : a1.toInt < 1 ∨ 5 < a1.toInt := by
                  have := sw_ne c_15 (k := 1) (by decide)
                  have := sw_ne c_17 (k := 2) (by decide)
                  have := sw_ne c_21 (k := 3) (by decide)
                  have := sw_ne c_24 (k := 4) (by decide)
                  have := sw_ne c_28 (k := 5) (by decide)
                  omega
                refine a_tableOut C0 219 dX7_plant_105 hsw (by decide) ?_
                refine a_aload_n C0 dX7_plant_219 rfl 1 rfl ?_
                refine a_get C0 inX7_plant_X7 0 rfl rfl 0 (by decide) lkX7_plant_7 (fun _ h9 => h9) (.ref q1) rfl dX7_plant_220 ?_
                refine a_iload_n C0 dX7_plant_223 rfl 0 rfl ?_
                refine a_iconst C0 (1 : Int32) dX7_plant_224 (by decide) ?_
                refine a_iadd C0 dX7_plant_225 ?_
                refine a_iconst C0 (0 : Int32) dX7_plant_226 (by decide) ?_
                obtain ⟨g_32, h⟩ := gi_e h
                obtain ⟨f1_33, ef1_33, h⟩ := lt_e h
                refine a_iast C0 1 0 rfl rfl g_32 dX7_plant_227 (wdX7_11 cA q0 q1 q2 q3 q4 q5 q6 q7 q8 q9 q10 q11 q12 q13 f0 l0_31 l0_32 f1_33 f2 f3 f4 f5 f6 f7 f8 f9 f10 f11) (by subst ef1_33; rfl) ?_
                refine a_lv [1, 2] (lv' := [(0, .ref q0), (1, .int a1)]) rfl ?_
                exact bwX7_plant_228 C0 N a1 l0_31 l0_32 f0 f1_33 f2 f3 f4 f5 f6 f7 f8 f9 f10 f11 h
    · have h := it_ c_14 h
      refine a_bipush C0 (-4 : Int32) dX7_plant_101 (by decide) ?_
      obtain rfl := Option.some.inj h
      exact a_iret C0 dX7_plant_103 rfl rfl
set_option maxHeartbeats 4000000 in
set_option maxRecDepth 100000 in
theorem bwX7_plant_37 {p : Program} {l : Launch} {e : Env} {s : State} {m : MethodId} {args : Array Value} {below : List Frame} {meth : Method} {c : Code} {D : va_G} {A : Nat → Prop} {cA : ClassId} {q0 q1 q2 q3 q4 q5 q6 q7 q8 q9 q10 q11 q12 q13 : Nat} {res : Int32 × (Nat → Int32) × (Nat → Int32) × (Nat → Int32) × (Nat → Int32) × (Nat → Int32) × (Nat → Int32) × (Nat → Int32) × (Nat → Int32) × (Nat → Int32) × (Nat → Int32) × (Nat → Int32) × (Nat → Int32)} (C0 : cx p s m args meth c cX7_plant 3 RX7 wsX7_plant (some .int) D vwCl [(cA, .int)] A) (N : Nat) (a1 : Int32) (l0_31 : Int64) (l0_32 : Int64) (f0 : Nat → Int32) (f1 : Nat → Int32) (f2 : Nat → Int32) (f3 : Nat → Int32) (f4 : Nat → Int32) (f5 : Nat → Int32) (f6 : Nat → Int32) (f7 : Nat → Int32) (f8 : Nat → Int32) (f9 : Nat → Int32) (f10 : Nat → Int32) (f11 : Nat → Int32) (h : bfX7_plant_37 N a1 l0_31 l0_32  f0 f1 f2 f3 f4 f5 f6 f7 f8 f9 f10 f11 = some res) : At_ p l e (rmX7_plant) s m args below meth c D vwCl A 3 0 0 (Qi_ below args s D vwCl A (wdX7_11 cA q0 q1 q2 q3 q4 q5 q6 q7 q8 q9 q10 q11 q12 q13 res.2.1 l0_31 l0_32 res.2.2.1 res.2.2.2.1 res.2.2.2.2.1 res.2.2.2.2.2.1 res.2.2.2.2.2.2.1 res.2.2.2.2.2.2.2.1 res.2.2.2.2.2.2.2.2.1 res.2.2.2.2.2.2.2.2.2.1 res.2.2.2.2.2.2.2.2.2.2.1 res.2.2.2.2.2.2.2.2.2.2.2.1 res.2.2.2.2.2.2.2.2.2.2.2.2) res.1) 37 [(0, .ref q0), (1, .int a1)] [] (wdX7_11 cA q0 q1 q2 q3 q4 q5 q6 q7 q8 q9 q10 q11 q12 q13 f0 l0_31 l0_32 f1 f2 f3 f4 f5 f6 f7 f8 f9 f10 f11) := by
  unfold bfX7_plant_37 at h
  refine a_aload_n C0 dX7_plant_37 rfl 0 rfl ?_
  refine a_sipush C0 (400 : Int32) dX7_plant_38 (by decide) ?_
  refine a_sipush C0 (800 : Int32) dX7_plant_41 (by decide) ?_
  refine a_sipush C0 (1500 : Int32) dX7_plant_44 (by decide) ?_
  obtain ⟨f0_34, f2_35, f3_36, f4_37, f5_38, f6_39, f7_40, f8_41, f9_42, f10_43, f11_44, h_45, h⟩ := bd11_e h
  refine a_callVv C0 (wdX7_11 cA q0 q1 q2 q3 q4 q5 q6 q7 q8 q9 q10 q11 q12 q13 f0_34 l0_31 l0_32 f1 f2_35 f3_36 f4_37 f5_38 f6_39 f7_40 f8_41 f9_42 f10_43 f11_44) (As := [.int (400 : Int32), .int (800 : Int32), .int (1500 : Int32)]) (rest := []) (ctX7_run l D cA q0 q1 q2 q3 q4 q5 q6 q7 q8 q9 q10 q11 q12 q13 N (400 : Int32) (800 : Int32) (1500 : Int32) f0 l0_31 l0_32 f1 f2 f3 f4 f5 f6 f7 f8 f9 f10 f11 h_45) (cwV 3 C0.1.2.2.2.2 gX7_plant_X7_run rfl rfl rfl hdX7_run ⟨Nat.le_of_ble_eq_true rfl, Nat.le_of_ble_eq_true rfl⟩) [0, 1, 2, 3, 4, 5, 6, 7, 8, 9, 10, 11] [] [0, 1, 2, 3, 4, 5, 6, 7, 8, 9, 10, 11] rfl rfl rfl rfl (by decide) rfl rfl rfl rfl rfl rfl (Nat.le_of_ble_eq_true rfl) dX7_plant_47 ⟨Nat.zero_le _, Nat.zero_le _⟩ ?_
  refine a_iload_n C0 dX7_plant_50 rfl 1 rfl ?_
  refine a_iconst C0 (2 : Int32) dX7_plant_51 (by decide) ?_
  refine a_icmp_ne C0 62 dX7_plant_52 (by decide) (fun c_46 => ?_) (fun c_46 => ?_)
  · have h := ie_ c_46 h
    refine a_iload_n C0 dX7_plant_62 rfl 1 rfl ?_
    refine a_iconst C0 (3 : Int32) dX7_plant_63 (by decide) ?_
    refine a_icmp_ne C0 74 dX7_plant_64 (by decide) (fun c_47 => ?_) (fun c_47 => ?_)
    · have h := ie_ c_47 h
      refine a_iload_n C0 dX7_plant_74 rfl 1 rfl ?_
      refine a_bipush C0 (7 : Int32) dX7_plant_75 (by decide) ?_
      refine a_icmp_ne C0 87 dX7_plant_77 (by decide) (fun c_48 => ?_) (fun c_48 => ?_)
      · have h := ie_ c_48 h
        refine a_iconst C0 (0 : Int32) dX7_plant_87 (by decide) ?_
        exact bwX7_plant_88 C0 N a1 l0_31 l0_32 (0 : Int32) f0_34 f1 f2_35 f3_36 f4_37 f5_38 f6_39 f7_40 f8_41 f9_42 f10_43 f11_44 h
      · have h := it_ c_48 h
        refine a_aload_n C0 dX7_plant_80 rfl 0 rfl ?_
        refine a_get C0 inX7_plant_X7 0 rfl rfl 28 (by decide) lkX7_plant_113 (fun _ h9 => h9) (.int (f0_34 28)) rfl dX7_plant_81 ?_
        refine a_goto C0 88 dX7_plant_84 (by decide) ?_
        exact bwX7_plant_88 C0 N a1 l0_31 l0_32 (f0_34 28) f0_34 f1 f2_35 f3_36 f4_37 f5_38 f6_39 f7_40 f8_41 f9_42 f10_43 f11_44 h
    · have h := it_ c_47 h
      refine a_aload_n C0 dX7_plant_67 rfl 0 rfl ?_
      refine a_get C0 inX7_plant_X7 0 rfl rfl 27 (by decide) lkX7_plant_110 (fun _ h9 => h9) (.int (f0_34 27)) rfl dX7_plant_68 ?_
      refine a_goto C0 88 dX7_plant_71 (by decide) ?_
      exact bwX7_plant_88 C0 N a1 l0_31 l0_32 (f0_34 27) f0_34 f1 f2_35 f3_36 f4_37 f5_38 f6_39 f7_40 f8_41 f9_42 f10_43 f11_44 h
  · have h := it_ c_46 h
    refine a_aload_n C0 dX7_plant_55 rfl 0 rfl ?_
    refine a_get C0 inX7_plant_X7 0 rfl rfl 26 (by decide) lkX7_plant_107 (fun _ h9 => h9) (.int (f0_34 26)) rfl dX7_plant_56 ?_
    refine a_goto C0 88 dX7_plant_59 (by decide) ?_
    exact bwX7_plant_88 C0 N a1 l0_31 l0_32 (f0_34 26) f0_34 f1 f2_35 f3_36 f4_37 f5_38 f6_39 f7_40 f8_41 f9_42 f10_43 f11_44 h
set_option maxHeartbeats 4000000 in
set_option maxRecDepth 100000 in
theorem bwX7_plant {p : Program} {l : Launch} {e : Env} {s : State} {m : MethodId} {args : Array Value} {below : List Frame} {meth : Method} {c : Code} {D : va_G} {A : Nat → Prop} {cA : ClassId} {q0 q1 q2 q3 q4 q5 q6 q7 q8 q9 q10 q11 q12 q13 : Nat} {res : Int32 × (Nat → Int32) × (Nat → Int32) × (Nat → Int32) × (Nat → Int32) × (Nat → Int32) × (Nat → Int32) × (Nat → Int32) × (Nat → Int32) × (Nat → Int32) × (Nat → Int32) × (Nat → Int32) × (Nat → Int32)} (C0 : cx p s m args meth c cX7_plant 3 RX7 wsX7_plant (some .int) D vwCl [(cA, .int)] A) (N : Nat) (a1 : Int32) (f0 : Nat → Int32) (l0_31 : Int64) (l0_32 : Int64) (f1 : Nat → Int32) (f2 : Nat → Int32) (f3 : Nat → Int32) (f4 : Nat → Int32) (f5 : Nat → Int32) (f6 : Nat → Int32) (f7 : Nat → Int32) (f8 : Nat → Int32) (f9 : Nat → Int32) (f10 : Nat → Int32) (f11 : Nat → Int32) (h : pX7_plant N a1 f0 l0_31 l0_32 f1 f2 f3 f4 f5 f6 f7 f8 f9 f10 f11 = some res) : At_ p l e (rmX7_plant) s m args below meth c D vwCl A 3 0 0 (Qi_ below args s D vwCl A (wdX7_11 cA q0 q1 q2 q3 q4 q5 q6 q7 q8 q9 q10 q11 q12 q13 res.2.1 l0_31 l0_32 res.2.2.1 res.2.2.2.1 res.2.2.2.2.1 res.2.2.2.2.2.1 res.2.2.2.2.2.2.1 res.2.2.2.2.2.2.2.1 res.2.2.2.2.2.2.2.2.1 res.2.2.2.2.2.2.2.2.2.1 res.2.2.2.2.2.2.2.2.2.2.1 res.2.2.2.2.2.2.2.2.2.2.2.1 res.2.2.2.2.2.2.2.2.2.2.2.2) res.1) 0 [(0, .ref q0), (1, .int a1)] [] (wdX7_11 cA q0 q1 q2 q3 q4 q5 q6 q7 q8 q9 q10 q11 q12 q13 f0 l0_31 l0_32 f1 f2 f3 f4 f5 f6 f7 f8 f9 f10 f11) := by
  unfold pX7_plant at h
  refine a_iload_n C0 dX7_plant_0 rfl 1 rfl ?_
  refine a_iconst C0 (1 : Int32) dX7_plant_1 (by decide) ?_
  refine a_bipush C0 (7 : Int32) dX7_plant_2 (by decide) ?_
  obtain ⟨r_49, h_50, h⟩ := bd1_e h
  refine a_callSi C0 (wdX7_11 cA q0 q1 q2 q3 q4 q5 q6 q7 q8 q9 q10 q11 q12 q13 f0 l0_31 l0_32 f1 f2 f3 f4 f5 f6 f7 f8 f9 f10 f11) (As := [.int a1, .int (1 : Int32), .int (7 : Int32)]) (rest := []) (ctX7_in l D cA a1 (1 : Int32) (7 : Int32) h_50) (cwS 3 C0.1.2.2.2.2 gX7_plant_X7_in rfl rfl rfl hdX7_in ⟨Nat.le_of_ble_eq_true rfl, Nat.le_of_ble_eq_true rfl⟩) [] [0, 1, 2, 3, 4, 5, 6, 7, 8, 9, 10, 11] [0, 1, 2, 3, 4, 5, 6, 7, 8, 9, 10, 11] rfl rfl rfl rfl (by decide) rfl rfl rfl rfl (Nat.le_of_ble_eq_true rfl) dX7_plant_4 ⟨Nat.zero_le _, Nat.zero_le _⟩ ?_
  refine a_if_eq C0 16 dX7_plant_7 (by decide) (fun c_51 => ?_) (fun c_51 => ?_)
  · have h := it_ c_51 h
    refine a_bipush C0 (-2 : Int32) dX7_plant_16 (by decide) ?_
    obtain rfl := Option.some.inj h
    exact a_iret C0 dX7_plant_18 rfl rfl
  · have h := ie_ c_51 h
    refine a_iload_n C0 dX7_plant_10 rfl 1 rfl ?_
    refine a_bipush C0 (6 : Int32) dX7_plant_11 (by decide) ?_
    refine a_icmp_ne C0 19 dX7_plant_13 (by decide) (fun c_52 => ?_) (fun c_52 => ?_)
    · have h := ie_ c_52 h
      refine a_iload_n C0 dX7_plant_19 rfl 1 rfl ?_
      refine a_iconst C0 (5 : Int32) dX7_plant_20 (by decide) ?_
      refine a_icmp_ne C0 37 dX7_plant_21 (by decide) (fun c_53 => ?_) (fun c_53 => ?_)
      · have h := ie_ c_53 h
        exact bwX7_plant_37 C0 N a1 l0_31 l0_32 f0 f1 f2 f3 f4 f5 f6 f7 f8 f9 f10 f11 h
      · have h := it_ c_53 h
        refine a_aload_n C0 dX7_plant_24 rfl 0 rfl ?_
        refine a_get C0 inX7_plant_X7 0 rfl rfl 1 (by decide) lkX7_plant_53 (fun _ h9 => h9) (.int (f0 1)) rfl dX7_plant_25 ?_
        refine a_sipush C0 (160 : Int32) dX7_plant_28 (by decide) ?_
        refine a_icmp_ne C0 37 dX7_plant_31 (by decide) (fun c_54 => ?_) (fun c_54 => ?_)
        · have h := ie_ c_54 h
          exact bwX7_plant_37 C0 N a1 l0_31 l0_32 f0 f1 f2 f3 f4 f5 f6 f7 f8 f9 f10 f11 h
        · have h := it_ c_54 h
          refine a_bipush C0 (-3 : Int32) dX7_plant_34 (by decide) ?_
          obtain rfl := Option.some.inj h
          exact a_iret C0 dX7_plant_36 rfl rfl
    · have h := it_ c_52 h
      refine a_bipush C0 (-2 : Int32) dX7_plant_16 (by decide) ?_
      obtain rfl := Option.some.inj h
      exact a_iret C0 dX7_plant_18 rfl rfl
set_option maxRecDepth 100000 in
theorem ctX7_plant (l : Launch) (D : va_G) (cA : ClassId) (q0 q1 q2 q3 q4 q5 q6 q7 q8 q9 q10 q11 q12 q13 : Nat) (N : Nat) (a1 : Int32) (f0 : Nat → Int32) (l0_31 : Int64) (l0_32 : Int64) (f1 : Nat → Int32) (f2 : Nat → Int32) (f3 : Nat → Int32) (f4 : Nat → Int32) (f5 : Nat → Int32) (f6 : Nat → Int32) (f7 : Nat → Int32) (f8 : Nat → Int32) (f9 : Nat → Int32) (f10 : Nat → Int32) (f11 : Nat → Int32) {res : Int32 × (Nat → Int32) × (Nat → Int32) × (Nat → Int32) × (Nat → Int32) × (Nat → Int32) × (Nat → Int32) × (Nat → Int32) × (Nat → Int32) × (Nat → Int32) × (Nat → Int32) × (Nat → Int32) × (Nat → Int32)} (h : pX7_plant N a1 f0 l0_31 l0_32 f1 f2 f3 f4 f5 f6 f7 f8 f9 f10 f11 = some res) : Cti l yX7_plant wsX7_plant (rmX7_plant) D vwCl [(cA, .int)] [.ref q0, .int a1] (wdX7_11 cA q0 q1 q2 q3 q4 q5 q6 q7 q8 q9 q10 q11 q12 q13 f0 l0_31 l0_32 f1 f2 f3 f4 f5 f6 f7 f8 f9 f10 f11) (wdX7_11 cA q0 q1 q2 q3 q4 q5 q6 q7 q8 q9 q10 q11 q12 q13 res.2.1 l0_31 l0_32 res.2.2.1 res.2.2.2.1 res.2.2.2.2.1 res.2.2.2.2.2.1 res.2.2.2.2.2.2.1 res.2.2.2.2.2.2.2.1 res.2.2.2.2.2.2.2.2.1 res.2.2.2.2.2.2.2.2.2.1 res.2.2.2.2.2.2.2.2.2.2.1 res.2.2.2.2.2.2.2.2.2.2.2.1 res.2.2.2.2.2.2.2.2.2.2.2.2) 0 0 res.1 :=
  ct_i (maxL := 3) (cc := cX7_plant) (by decide) rfl (Nat.le_of_ble_eq_true rfl) (fun p e s m below meth c C0 => bwX7_plant C0 N a1 f0 l0_31 l0_32 f1 f2 f3 f4 f5 f6 f7 f8 f9 f10 f11 h)
/-! PackDrawerModel.shorter -/
abbrev rmX7_shorter : Room := { frames := 7, cells := 0, slots := 0, locals := 163 }
theorem lkX7_shorter_7 : Cond.fieldLink RX7 7 RX7 (TX7 0).2.1 (TX7 0).2.2.1 ∈ wsX7_shorter := by decide +kernel
theorem inX7_shorter_X7 : ∀ w ∈ u_ws RX7 TX7 33, w ∈ wsX7_shorter := by decide +kernel
theorem lkX7_shorter_53 : Cond.fieldLink RX7 53 RX7 (TX7 1).2.1 (TX7 1).2.2.1 ∈ wsX7_shorter := by decide +kernel
theorem lkX7_shorter_57 : Cond.fieldLink RX7 57 RX7 (TX7 16).2.1 (TX7 16).2.2.1 ∈ wsX7_shorter := by decide +kernel
def bfX7_shorter_173 (N : Nat) (a1 : Int32) (a2 : Int32) (a3 : Int32) (l0_31 : Int64) (l0_32 : Int64) (rc31 : Int32 → Int32 → Int32 → (Nat → Int32) → (Nat → Int32) → (Nat → Int32) → (Nat → Int32) → (Nat → Int32) → (Nat → Int32) → (Nat → Int32) → (Nat → Int32) → (Nat → Int32) → (Nat → Int32) → (Nat → Int32) → (Nat → Int32) → Option (Int32 × (Nat → Int32) × (Nat → Int32) × (Nat → Int32) × (Nat → Int32) × (Nat → Int32) × (Nat → Int32) × (Nat → Int32) × (Nat → Int32) × (Nat → Int32) × (Nat → Int32) × (Nat → Int32) × (Nat → Int32))) (v4 : Int32) (v5 : Int32) (v6 : Int32) (f0 : Nat → Int32) (f1 : Nat → Int32) (f2 : Nat → Int32) (f3 : Nat → Int32) (f4 : Nat → Int32) (f5 : Nat → Int32) (f6 : Nat → Int32) (f7 : Nat → Int32) (f8 : Nat → Int32) (f9 : Nat → Int32) (f10 : Nat → Int32) (f11 : Nat → Int32) : Option (Int32 × (Nat → Int32) × (Nat → Int32) × (Nat → Int32) × (Nat → Int32) × (Nat → Int32) × (Nat → Int32) × (Nat → Int32) × (Nat → Int32) × (Nat → Int32) × (Nat → Int32) × (Nat → Int32) × (Nat → Int32)) := rc31 v4 v5 v6 f0 f1 f2 f3 f4 f5 f6 f7 f8 f9 f10 f11
def bFX7_shorter_122 (N : Nat) (a1 : Int32) (a2 : Int32) (a3 : Int32) (l0_31 : Int64) (l0_32 : Int64) (rc31 : Int32 → Int32 → Int32 → (Nat → Int32) → (Nat → Int32) → (Nat → Int32) → (Nat → Int32) → (Nat → Int32) → (Nat → Int32) → (Nat → Int32) → (Nat → Int32) → (Nat → Int32) → (Nat → Int32) → (Nat → Int32) → (Nat → Int32) → Option (Int32 × (Nat → Int32) × (Nat → Int32) × (Nat → Int32) × (Nat → Int32) × (Nat → Int32) × (Nat → Int32) × (Nat → Int32) × (Nat → Int32) × (Nat → Int32) × (Nat → Int32) × (Nat → Int32) × (Nat → Int32))) (rc122 : Int32 → Int32 → Int32 → Int32 → Int32 → (Nat → Int32) → (Nat → Int32) → (Nat → Int32) → (Nat → Int32) → (Nat → Int32) → (Nat → Int32) → (Nat → Int32) → (Nat → Int32) → (Nat → Int32) → (Nat → Int32) → (Nat → Int32) → (Nat → Int32) → Option (Int32 × (Nat → Int32) × (Nat → Int32) × (Nat → Int32) × (Nat → Int32) × (Nat → Int32) × (Nat → Int32) × (Nat → Int32) × (Nat → Int32) × (Nat → Int32) × (Nat → Int32) × (Nat → Int32) × (Nat → Int32))) (v4 : Int32) (v5 : Int32) (v6 : Int32) (v7 : Int32) (v8 : Int32) (f0 : Nat → Int32) (f1 : Nat → Int32) (f2 : Nat → Int32) (f3 : Nat → Int32) (f4 : Nat → Int32) (f5 : Nat → Int32) (f6 : Nat → Int32) (f7 : Nat → Int32) (f8 : Nat → Int32) (f9 : Nat → Int32) (f10 : Nat → Int32) (f11 : Nat → Int32) : Option (Int32 × (Nat → Int32) × (Nat → Int32) × (Nat → Int32) × (Nat → Int32) × (Nat → Int32) × (Nat → Int32) × (Nat → Int32) × (Nat → Int32) × (Nat → Int32) × (Nat → Int32) × (Nat → Int32) × (Nat → Int32)) := if v8 ≤ v6 then gi_ v6 160 (lt_ (upd f1 v6.toNatClampNeg v7) (fun f1_3 => lt_ (upd f0 1 ((f0 1) + (1 : Int32))) (fun f0_4 => lt_ ((v6 + (1 : Int32))) (fun x_5 => bfX7_shorter_173 N a1 a2 a3 l0_31 l0_32 rc31 v4 v5 x_5 f0_4 f1_3 f2 f3 f4 f5 f6 f7 f8 f9 f10 f11)))) else gi_ (v8 - (1 : Int32)) 160 (gi_ v8 160 (lt_ (upd f1 v8.toNatClampNeg (f1 (v8 - (1 : Int32)).toNatClampNeg)) (fun f1_8 => lt_ ((v8 + (-1 : Int32))) (fun x_9 => rc122 v4 v5 v6 v7 x_9 f0 f1_8 f2 f3 f4 f5 f6 f7 f8 f9 f10 f11))))
def bfX7_shorter_122 (N : Nat) (a1 : Int32) (a2 : Int32) (a3 : Int32) (l0_31 : Int64) (l0_32 : Int64) (rc31 : Int32 → Int32 → Int32 → (Nat → Int32) → (Nat → Int32) → (Nat → Int32) → (Nat → Int32) → (Nat → Int32) → (Nat → Int32) → (Nat → Int32) → (Nat → Int32) → (Nat → Int32) → (Nat → Int32) → (Nat → Int32) → (Nat → Int32) → Option (Int32 × (Nat → Int32) × (Nat → Int32) × (Nat → Int32) × (Nat → Int32) × (Nat → Int32) × (Nat → Int32) × (Nat → Int32) × (Nat → Int32) × (Nat → Int32) × (Nat → Int32) × (Nat → Int32) × (Nat → Int32))) : Nat → Int32 → Int32 → Int32 → Int32 → Int32 → (Nat → Int32) → (Nat → Int32) → (Nat → Int32) → (Nat → Int32) → (Nat → Int32) → (Nat → Int32) → (Nat → Int32) → (Nat → Int32) → (Nat → Int32) → (Nat → Int32) → (Nat → Int32) → (Nat → Int32) → Option (Int32 × (Nat → Int32) × (Nat → Int32) × (Nat → Int32) × (Nat → Int32) × (Nat → Int32) × (Nat → Int32) × (Nat → Int32) × (Nat → Int32) × (Nat → Int32) × (Nat → Int32) × (Nat → Int32) × (Nat → Int32))
  | 0 => fun _ _ _ _ _ _ _ _ _ _ _ _ _ _ _ _ _ => none
  | n + 1 => bFX7_shorter_122 N a1 a2 a3 l0_31 l0_32 rc31 (bfX7_shorter_122 N a1 a2 a3 l0_31 l0_32 rc31 n)
def bFX7_shorter_63 (N : Nat) (a1 : Int32) (a2 : Int32) (a3 : Int32) (l0_31 : Int64) (l0_32 : Int64) (rc31 : Int32 → Int32 → Int32 → (Nat → Int32) → (Nat → Int32) → (Nat → Int32) → (Nat → Int32) → (Nat → Int32) → (Nat → Int32) → (Nat → Int32) → (Nat → Int32) → (Nat → Int32) → (Nat → Int32) → (Nat → Int32) → (Nat → Int32) → Option (Int32 × (Nat → Int32) × (Nat → Int32) × (Nat → Int32) × (Nat → Int32) × (Nat → Int32) × (Nat → Int32) × (Nat → Int32) × (Nat → Int32) × (Nat → Int32) × (Nat → Int32) × (Nat → Int32) × (Nat → Int32))) (rc63 : Int32 → Int32 → Int32 → Int32 → Int32 → (Nat → Int32) → (Nat → Int32) → (Nat → Int32) → (Nat → Int32) → (Nat → Int32) → (Nat → Int32) → (Nat → Int32) → (Nat → Int32) → (Nat → Int32) → (Nat → Int32) → (Nat → Int32) → (Nat → Int32) → Option (Int32 × (Nat → Int32) × (Nat → Int32) × (Nat → Int32) × (Nat → Int32) × (Nat → Int32) × (Nat → Int32) × (Nat → Int32) × (Nat → Int32) × (Nat → Int32) × (Nat → Int32) × (Nat → Int32) × (Nat → Int32))) (v4 : Int32) (v5 : Int32) (v6 : Int32) (v7 : Int32) (v8 : Int32) (f0 : Nat → Int32) (f1 : Nat → Int32) (f2 : Nat → Int32) (f3 : Nat → Int32) (f4 : Nat → Int32) (f5 : Nat → Int32) (f6 : Nat → Int32) (f7 : Nat → Int32) (f8 : Nat → Int32) (f9 : Nat → Int32) (f10 : Nat → Int32) (f11 : Nat → Int32) : Option (Int32 × (Nat → Int32) × (Nat → Int32) × (Nat → Int32) × (Nat → Int32) × (Nat → Int32) × (Nat → Int32) × (Nat → Int32) × (Nat → Int32) × (Nat → Int32) × (Nat → Int32) × (Nat → Int32) × (Nat → Int32)) := if (f0 1) ≤ v8 then bd11 (pX7_run N a1 a2 a3 f0 l0_31 l0_32 f1 f2 f3 f4 f5 f6 f7 f8 f9 f10 f11) (fun f0_11 f2_12 f3_13 f4_14 f5_15 f6_16 f7_17 f8_18 f9_19 f10_20 f11_21 => if (f0_11 16) = v4 then lt_ ((v5 + (1 : Int32))) (fun x_25 => bfX7_shorter_173 N a1 a2 a3 l0_31 l0_32 rc31 v4 x_25 v6 f0_11 f1 f2_12 f3_13 f4_14 f5_15 f6_16 f7_17 f8_18 f9_19 f10_20 f11_21) else lt_ ((f0_11 1)) (fun x_24 => bfX7_shorter_122 N a1 a2 a3 l0_31 l0_32 rc31 N v4 v5 v6 v7 x_24 f0_11 f1 f2_12 f3_13 f4_14 f5_15 f6_16 f7_17 f8_18 f9_19 f10_20 f11_21)) else gi_ (v8 + (1 : Int32)) 160 (gi_ v8 160 (lt_ (upd f1 v8.toNatClampNeg (f1 (v8 + (1 : Int32)).toNatClampNeg)) (fun f1_28 => lt_ ((v8 + (1 : Int32))) (fun x_29 => rc63 v4 v5 v6 v7 x_29 f0 f1_28 f2 f3 f4 f5 f6 f7 f8 f9 f10 f11))))
def bfX7_shorter_63 (N : Nat) (a1 : Int32) (a2 : Int32) (a3 : Int32) (l0_31 : Int64) (l0_32 : Int64) (rc31 : Int32 → Int32 → Int32 → (Nat → Int32) → (Nat → Int32) → (Nat → Int32) → (Nat → Int32) → (Nat → Int32) → (Nat → Int32) → (Nat → Int32) → (Nat → Int32) → (Nat → Int32) → (Nat → Int32) → (Nat → Int32) → (Nat → Int32) → Option (Int32 × (Nat → Int32) × (Nat → Int32) × (Nat → Int32) × (Nat → Int32) × (Nat → Int32) × (Nat → Int32) × (Nat → Int32) × (Nat → Int32) × (Nat → Int32) × (Nat → Int32) × (Nat → Int32) × (Nat → Int32))) : Nat → Int32 → Int32 → Int32 → Int32 → Int32 → (Nat → Int32) → (Nat → Int32) → (Nat → Int32) → (Nat → Int32) → (Nat → Int32) → (Nat → Int32) → (Nat → Int32) → (Nat → Int32) → (Nat → Int32) → (Nat → Int32) → (Nat → Int32) → (Nat → Int32) → Option (Int32 × (Nat → Int32) × (Nat → Int32) × (Nat → Int32) × (Nat → Int32) × (Nat → Int32) × (Nat → Int32) × (Nat → Int32) × (Nat → Int32) × (Nat → Int32) × (Nat → Int32) × (Nat → Int32) × (Nat → Int32))
  | 0 => fun _ _ _ _ _ _ _ _ _ _ _ _ _ _ _ _ _ => none
  | n + 1 => bFX7_shorter_63 N a1 a2 a3 l0_31 l0_32 rc31 (bfX7_shorter_63 N a1 a2 a3 l0_31 l0_32 rc31 n)
def bFX7_shorter_31 (N : Nat) (a1 : Int32) (a2 : Int32) (a3 : Int32) (l0_31 : Int64) (l0_32 : Int64) (rc31 : Int32 → Int32 → Int32 → (Nat → Int32) → (Nat → Int32) → (Nat → Int32) → (Nat → Int32) → (Nat → Int32) → (Nat → Int32) → (Nat → Int32) → (Nat → Int32) → (Nat → Int32) → (Nat → Int32) → (Nat → Int32) → (Nat → Int32) → Option (Int32 × (Nat → Int32) × (Nat → Int32) × (Nat → Int32) × (Nat → Int32) × (Nat → Int32) × (Nat → Int32) × (Nat → Int32) × (Nat → Int32) × (Nat → Int32) × (Nat → Int32) × (Nat → Int32) × (Nat → Int32))) (v4 : Int32) (v5 : Int32) (v6 : Int32) (f0 : Nat → Int32) (f1 : Nat → Int32) (f2 : Nat → Int32) (f3 : Nat → Int32) (f4 : Nat → Int32) (f5 : Nat → Int32) (f6 : Nat → Int32) (f7 : Nat → Int32) (f8 : Nat → Int32) (f9 : Nat → Int32) (f10 : Nat → Int32) (f11 : Nat → Int32) : Option (Int32 × (Nat → Int32) × (Nat → Int32) × (Nat → Int32) × (Nat → Int32) × (Nat → Int32) × (Nat → Int32) × (Nat → Int32) × (Nat → Int32) × (Nat → Int32) × (Nat → Int32) × (Nat → Int32) × (Nat → Int32)) := if (f0 1) ≤ v6 then some (v5, f0, f1, f2, f3, f4, f5, f6, f7, f8, f9, f10, f11) else gi_ v6 160 (lt_ ((f1 v6.toNatClampNeg)) (fun x_32 => lt_ (upd f0 1 ((f0 1) - (1 : Int32))) (fun f0_33 => bfX7_shorter_63 N a1 a2 a3 l0_31 l0_32 rc31 N v4 v5 v6 x_32 v6 f0_33 f1 f2 f3 f4 f5 f6 f7 f8 f9 f10 f11)))
def bfX7_shorter_31 (N : Nat) (a1 : Int32) (a2 : Int32) (a3 : Int32) (l0_31 : Int64) (l0_32 : Int64) : Nat → Int32 → Int32 → Int32 → (Nat → Int32) → (Nat → Int32) → (Nat → Int32) → (Nat → Int32) → (Nat → Int32) → (Nat → Int32) → (Nat → Int32) → (Nat → Int32) → (Nat → Int32) → (Nat → Int32) → (Nat → Int32) → (Nat → Int32) → Option (Int32 × (Nat → Int32) × (Nat → Int32) × (Nat → Int32) × (Nat → Int32) × (Nat → Int32) × (Nat → Int32) × (Nat → Int32) × (Nat → Int32) × (Nat → Int32) × (Nat → Int32) × (Nat → Int32) × (Nat → Int32))
  | 0 => fun _ _ _ _ _ _ _ _ _ _ _ _ _ _ _ => none
  | n + 1 => bFX7_shorter_31 N a1 a2 a3 l0_31 l0_32  (bfX7_shorter_31 N a1 a2 a3 l0_31 l0_32  n)
def pX7_shorter (N : Nat) (a1 : Int32) (a2 : Int32) (a3 : Int32) (f0 : Nat → Int32) (l0_31 : Int64) (l0_32 : Int64) (f1 : Nat → Int32) (f2 : Nat → Int32) (f3 : Nat → Int32) (f4 : Nat → Int32) (f5 : Nat → Int32) (f6 : Nat → Int32) (f7 : Nat → Int32) (f8 : Nat → Int32) (f9 : Nat → Int32) (f10 : Nat → Int32) (f11 : Nat → Int32) : Option (Int32 × (Nat → Int32) × (Nat → Int32) × (Nat → Int32) × (Nat → Int32) × (Nat → Int32) × (Nat → Int32) × (Nat → Int32) × (Nat → Int32) × (Nat → Int32) × (Nat → Int32) × (Nat → Int32) × (Nat → Int32)) := bd1 (pX7_isBound a1 a2 a3) (fun r_34 => if r_34 = 0 then some ((-2 : Int32), f0, f1, f2, f3, f4, f5, f6, f7, f8, f9, f10, f11) else bd11 (pX7_run N a1 a2 a3 f0 l0_31 l0_32 f1 f2 f3 f4 f5 f6 f7 f8 f9 f10 f11) (fun f0_37 f2_38 f3_39 f4_40 f5_41 f6_42 f7_43 f8_44 f9_45 f10_46 f11_47 => lt_ ((f0_37 16)) (fun x_49 => bfX7_shorter_31 N a1 a2 a3 l0_31 l0_32 N x_49 (0 : Int32) (0 : Int32) f0_37 f1 f2_38 f3_39 f4_40 f5_41 f6_42 f7_43 f8_44 f9_45 f10_46 f11_47)))
set_option maxHeartbeats 4000000 in
set_option maxRecDepth 100000 in
theorem bwX7_shorter_173 {p : Program} {l : Launch} {e : Env} {s : State} {m : MethodId} {args : Array Value} {below : List Frame} {meth : Method} {c : Code} {D : va_G} {A : Nat → Prop} {cA : ClassId} {q0 q1 q2 q3 q4 q5 q6 q7 q8 q9 q10 q11 q12 q13 : Nat} {res : Int32 × (Nat → Int32) × (Nat → Int32) × (Nat → Int32) × (Nat → Int32) × (Nat → Int32) × (Nat → Int32) × (Nat → Int32) × (Nat → Int32) × (Nat → Int32) × (Nat → Int32) × (Nat → Int32) × (Nat → Int32)} (C0 : cx p s m args meth c cX7_shorter 9 RX7 wsX7_shorter (some .int) D vwCl [(cA, .int)] A) (N : Nat) (a1 : Int32) (a2 : Int32) (a3 : Int32) (l0_31 : Int64) (l0_32 : Int64) (rc31 : Int32 → Int32 → Int32 → (Nat → Int32) → (Nat → Int32) → (Nat → Int32) → (Nat → Int32) → (Nat → Int32) → (Nat → Int32) → (Nat → Int32) → (Nat → Int32) → (Nat → Int32) → (Nat → Int32) → (Nat → Int32) → (Nat → Int32) → Option (Int32 × (Nat → Int32) × (Nat → Int32) × (Nat → Int32) × (Nat → Int32) × (Nat → Int32) × (Nat → Int32) × (Nat → Int32) × (Nat → Int32) × (Nat → Int32) × (Nat → Int32) × (Nat → Int32) × (Nat → Int32))) (hrc31 : ∀ (v4 : Int32) (v5 : Int32) (v6 : Int32) (f0 : Nat → Int32) (f1 : Nat → Int32) (f2 : Nat → Int32) (f3 : Nat → Int32) (f4 : Nat → Int32) (f5 : Nat → Int32) (f6 : Nat → Int32) (f7 : Nat → Int32) (f8 : Nat → Int32) (f9 : Nat → Int32) (f10 : Nat → Int32) (f11 : Nat → Int32), rc31 v4 v5 v6 f0 f1 f2 f3 f4 f5 f6 f7 f8 f9 f10 f11 = some res → At_ p l e (rmX7_shorter) s m args below meth c D vwCl A 9 0 0 (Qi_ below args s D vwCl A (wdX7_11 cA q0 q1 q2 q3 q4 q5 q6 q7 q8 q9 q10 q11 q12 q13 res.2.1 l0_31 l0_32 res.2.2.1 res.2.2.2.1 res.2.2.2.2.1 res.2.2.2.2.2.1 res.2.2.2.2.2.2.1 res.2.2.2.2.2.2.2.1 res.2.2.2.2.2.2.2.2.1 res.2.2.2.2.2.2.2.2.2.1 res.2.2.2.2.2.2.2.2.2.2.1 res.2.2.2.2.2.2.2.2.2.2.2.1 res.2.2.2.2.2.2.2.2.2.2.2.2) res.1) 31 [(0, .ref q0), (1, .int a1), (2, .int a2), (3, .int a3), (4, .int v4), (5, .int v5), (6, .int v6)] [] (wdX7_11 cA q0 q1 q2 q3 q4 q5 q6 q7 q8 q9 q10 q11 q12 q13 f0 l0_31 l0_32 f1 f2 f3 f4 f5 f6 f7 f8 f9 f10 f11)) (v4 : Int32) (v5 : Int32) (v6 : Int32) (f0 : Nat → Int32) (f1 : Nat → Int32) (f2 : Nat → Int32) (f3 : Nat → Int32) (f4 : Nat → Int32) (f5 : Nat → Int32) (f6 : Nat → Int32) (f7 : Nat → Int32) (f8 : Nat → Int32) (f9 : Nat → Int32) (f10 : Nat → Int32) (f11 : Nat → Int32) (h : bfX7_shorter_173 N a1 a2 a3 l0_31 l0_32 rc31 v4 v5 v6 f0 f1 f2 f3 f4 f5 f6 f7 f8 f9 f10 f11 = some res) : At_ p l e (rmX7_shorter) s m args below meth c D vwCl A 9 0 0 (Qi_ below args s D vwCl A (wdX7_11 cA q0 q1 q2 q3 q4 q5 q6 q7 q8 q9 q10 q11 q12 q13 res.2.1 l0_31 l0_32 res.2.2.1 res.2.2.2.1 res.2.2.2.2.1 res.2.2.2.2.2.1 res.2.2.2.2.2.2.1 res.2.2.2.2.2.2.2.1 res.2.2.2.2.2.2.2.2.1 res.2.2.2.2.2.2.2.2.2.1 res.2.2.2.2.2.2.2.2.2.2.1 res.2.2.2.2.2.2.2.2.2.2.2.1 res.2.2.2.2.2.2.2.2.2.2.2.2) res.1) 173 [(0, .ref q0), (1, .int a1), (2, .int a2), (3, .int a3), (4, .int v4), (5, .int v5), (6, .int v6)] [] (wdX7_11 cA q0 q1 q2 q3 q4 q5 q6 q7 q8 q9 q10 q11 q12 q13 f0 l0_31 l0_32 f1 f2 f3 f4 f5 f6 f7 f8 f9 f10 f11) := by
  unfold bfX7_shorter_173 at h
  refine a_goto C0 31 dX7_shorter_173 (by decide) ?_
  exact hrc31 v4 v5 v6 f0 f1 f2 f3 f4 f5 f6 f7 f8 f9 f10 f11 h
set_option maxHeartbeats 4000000 in
set_option maxRecDepth 100000 in
theorem bwX7_shorter_122 {p : Program} {l : Launch} {e : Env} {s : State} {m : MethodId} {args : Array Value} {below : List Frame} {meth : Method} {c : Code} {D : va_G} {A : Nat → Prop} {cA : ClassId} {q0 q1 q2 q3 q4 q5 q6 q7 q8 q9 q10 q11 q12 q13 : Nat} {res : Int32 × (Nat → Int32) × (Nat → Int32) × (Nat → Int32) × (Nat → Int32) × (Nat → Int32) × (Nat → Int32) × (Nat → Int32) × (Nat → Int32) × (Nat → Int32) × (Nat → Int32) × (Nat → Int32) × (Nat → Int32)} (C0 : cx p s m args meth c cX7_shorter 9 RX7 wsX7_shorter (some .int) D vwCl [(cA, .int)] A) (N : Nat) (a1 : Int32) (a2 : Int32) (a3 : Int32) (l0_31 : Int64) (l0_32 : Int64) (rc31 : Int32 → Int32 → Int32 → (Nat → Int32) → (Nat → Int32) → (Nat → Int32) → (Nat → Int32) → (Nat → Int32) → (Nat → Int32) → (Nat → Int32) → (Nat → Int32) → (Nat → Int32) → (Nat → Int32) → (Nat → Int32) → (Nat → Int32) → Option (Int32 × (Nat → Int32) × (Nat → Int32) × (Nat → Int32) × (Nat → Int32) × (Nat → Int32) × (Nat → Int32) × (Nat → Int32) × (Nat → Int32) × (Nat → Int32) × (Nat → Int32) × (Nat → Int32) × (Nat → Int32))) (hrc31 : ∀ (v4 : Int32) (v5 : Int32) (v6 : Int32) (f0 : Nat → Int32) (f1 : Nat → Int32) (f2 : Nat → Int32) (f3 : Nat → Int32) (f4 : Nat → Int32) (f5 : Nat → Int32) (f6 : Nat → Int32) (f7 : Nat → Int32) (f8 : Nat → Int32) (f9 : Nat → Int32) (f10 : Nat → Int32) (f11 : Nat → Int32), rc31 v4 v5 v6 f0 f1 f2 f3 f4 f5 f6 f7 f8 f9 f10 f11 = some res → At_ p l e (rmX7_shorter) s m args below meth c D vwCl A 9 0 0 (Qi_ below args s D vwCl A (wdX7_11 cA q0 q1 q2 q3 q4 q5 q6 q7 q8 q9 q10 q11 q12 q13 res.2.1 l0_31 l0_32 res.2.2.1 res.2.2.2.1 res.2.2.2.2.1 res.2.2.2.2.2.1 res.2.2.2.2.2.2.1 res.2.2.2.2.2.2.2.1 res.2.2.2.2.2.2.2.2.1 res.2.2.2.2.2.2.2.2.2.1 res.2.2.2.2.2.2.2.2.2.2.1 res.2.2.2.2.2.2.2.2.2.2.2.1 res.2.2.2.2.2.2.2.2.2.2.2.2) res.1) 31 [(0, .ref q0), (1, .int a1), (2, .int a2), (3, .int a3), (4, .int v4), (5, .int v5), (6, .int v6)] [] (wdX7_11 cA q0 q1 q2 q3 q4 q5 q6 q7 q8 q9 q10 q11 q12 q13 f0 l0_31 l0_32 f1 f2 f3 f4 f5 f6 f7 f8 f9 f10 f11)) : ∀ (n : Nat) (v4 : Int32) (v5 : Int32) (v6 : Int32) (v7 : Int32) (v8 : Int32) (f0 : Nat → Int32) (f1 : Nat → Int32) (f2 : Nat → Int32) (f3 : Nat → Int32) (f4 : Nat → Int32) (f5 : Nat → Int32) (f6 : Nat → Int32) (f7 : Nat → Int32) (f8 : Nat → Int32) (f9 : Nat → Int32) (f10 : Nat → Int32) (f11 : Nat → Int32), bfX7_shorter_122 N a1 a2 a3 l0_31 l0_32 rc31 n v4 v5 v6 v7 v8 f0 f1 f2 f3 f4 f5 f6 f7 f8 f9 f10 f11 = some res → At_ p l e (rmX7_shorter) s m args below meth c D vwCl A 9 0 0 (Qi_ below args s D vwCl A (wdX7_11 cA q0 q1 q2 q3 q4 q5 q6 q7 q8 q9 q10 q11 q12 q13 res.2.1 l0_31 l0_32 res.2.2.1 res.2.2.2.1 res.2.2.2.2.1 res.2.2.2.2.2.1 res.2.2.2.2.2.2.1 res.2.2.2.2.2.2.2.1 res.2.2.2.2.2.2.2.2.1 res.2.2.2.2.2.2.2.2.2.1 res.2.2.2.2.2.2.2.2.2.2.1 res.2.2.2.2.2.2.2.2.2.2.2.1 res.2.2.2.2.2.2.2.2.2.2.2.2) res.1) 122 [(0, .ref q0), (1, .int a1), (2, .int a2), (3, .int a3), (4, .int v4), (5, .int v5), (6, .int v6), (7, .int v7), (8, .int v8)] [] (wdX7_11 cA q0 q1 q2 q3 q4 q5 q6 q7 q8 q9 q10 q11 q12 q13 f0 l0_31 l0_32 f1 f2 f3 f4 f5 f6 f7 f8 f9 f10 f11) := by
  intro n
  induction n with
  | zero => intro v4 v5 v6 v7 v8 f0 f1 f2 f3 f4 f5 f6 f7 f8 f9 f10 f11 h; cases h
  | succ n hrc122 =>
    intro v4 v5 v6 v7 v8 f0 f1 f2 f3 f4 f5 f6 f7 f8 f9 f10 f11 h
    replace h : bFX7_shorter_122 N a1 a2 a3 l0_31 l0_32 rc31 (bfX7_shorter_122 N a1 a2 a3 l0_31 l0_32 rc31 n) v4 v5 v6 v7 v8 f0 f1 f2 f3 f4 f5 f6 f7 f8 f9 f10 f11 = some res := h
    generalize bfX7_shorter_122 N a1 a2 a3 l0_31 l0_32 rc31 n = rc122 at h hrc122
    unfold bFX7_shorter_122 at h
    refine a_iload C0 dX7_shorter_122 8 rfl ?_
    refine a_iload C0 dX7_shorter_124 6 rfl ?_
    refine a_icmp_le C0 151 dX7_shorter_126 (by decide) (fun c_1 => ?_) (fun c_1 => ?_)
    · have h := it_ c_1 h
      refine a_aload_n C0 dX7_shorter_151 rfl 0 rfl ?_
      refine a_get C0 inX7_shorter_X7 0 rfl rfl 0 (by decide) lkX7_shorter_7 (fun _ h9 => h9) (.ref q1) rfl dX7_shorter_152 ?_
      refine a_iload C0 dX7_shorter_155 6 rfl ?_
      refine a_iload C0 dX7_shorter_157 7 rfl ?_
      obtain ⟨g_2, h⟩ := gi_e h
      obtain ⟨f1_3, ef1_3, h⟩ := lt_e h
      refine a_iast C0 1 0 rfl rfl g_2 dX7_shorter_159 (wdX7_11 cA q0 q1 q2 q3 q4 q5 q6 q7 q8 q9 q10 q11 q12 q13 f0 l0_31 l0_32 f1_3 f2 f3 f4 f5 f6 f7 f8 f9 f10 f11) (by subst ef1_3; rfl) ?_
      refine a_aload_n C0 dX7_shorter_160 rfl 0 rfl ?_
      refine a_dup C0 dX7_shorter_161 rfl ?_
      refine a_get C0 inX7_shorter_X7 0 rfl rfl 1 (by decide) lkX7_shorter_53 (fun _ h9 => h9) (.int (f0 1)) rfl dX7_shorter_162 ?_
      refine a_iconst C0 (1 : Int32) dX7_shorter_165 (by decide) ?_
      refine a_iadd C0 dX7_shorter_166 ?_
      obtain ⟨f0_4, ef0_4, h⟩ := lt_e h
      refine a_put C0 inX7_shorter_X7 tyX7 tyX7_ok nmX7 0 rfl rfl 1 (by decide) lkX7_shorter_53 (fun _ h9 => h9) rfl (ty := .int) (v := .int ((f0 1) + (1 : Int32))) (by decide +kernel) rfl rfl (Nat.le_of_ble_eq_true rfl) dX7_shorter_167 (wdX7_11 cA q0 q1 q2 q3 q4 q5 q6 q7 q8 q9 q10 q11 q12 q13 f0_4 l0_31 l0_32 f1_3 f2 f3 f4 f5 f6 f7 f8 f9 f10 f11) (by subst ef0_4; rfl) ?_
      obtain ⟨x_5, ex_5, h⟩ := lt_e h
      refine a_iinc C0 x_5 [(6, .int x_5), (0, .ref q0), (1, .int a1), (2, .int a2), (3, .int a3), (4, .int v4), (5, .int v5), (7, .int v7), (8, .int v8)] dX7_shorter_170 6 rfl (by subst ex_5; rfl) (by decide) rfl ?_
      refine a_lv [1, 2, 3, 4, 5, 6, 0] (lv' := [(0, .ref q0), (1, .int a1), (2, .int a2), (3, .int a3), (4, .int v4), (5, .int v5), (6, .int x_5)]) rfl ?_
      exact bwX7_shorter_173 C0 N a1 a2 a3 l0_31 l0_32 rc31 hrc31 v4 v5 x_5 f0_4 f1_3 f2 f3 f4 f5 f6 f7 f8 f9 f10 f11 h
    · have h := ie_ c_1 h
      refine a_aload_n C0 dX7_shorter_129 rfl 0 rfl ?_
      refine a_get C0 inX7_shorter_X7 0 rfl rfl 0 (by decide) lkX7_shorter_7 (fun _ h9 => h9) (.ref q1) rfl dX7_shorter_130 ?_
      refine a_iload C0 dX7_shorter_133 8 rfl ?_
      refine a_aload_n C0 dX7_shorter_135 rfl 0 rfl ?_
      refine a_get C0 inX7_shorter_X7 0 rfl rfl 0 (by decide) lkX7_shorter_7 (fun _ h9 => h9) (.ref q1) rfl dX7_shorter_136 ?_
      refine a_iload C0 dX7_shorter_139 8 rfl ?_
      refine a_iconst C0 (1 : Int32) dX7_shorter_141 (by decide) ?_
      refine a_isub C0 dX7_shorter_142 ?_
      obtain ⟨g_6, h⟩ := gi_e h
      refine a_iald C0 1 0 rfl rfl g_6 dX7_shorter_143 ?_
      obtain ⟨g_7, h⟩ := gi_e h
      obtain ⟨f1_8, ef1_8, h⟩ := lt_e h
      refine a_iast C0 1 0 rfl rfl g_7 dX7_shorter_144 (wdX7_11 cA q0 q1 q2 q3 q4 q5 q6 q7 q8 q9 q10 q11 q12 q13 f0 l0_31 l0_32 f1_8 f2 f3 f4 f5 f6 f7 f8 f9 f10 f11) (by subst ef1_8; rfl) ?_
      obtain ⟨x_9, ex_9, h⟩ := lt_e h
      refine a_iinc C0 x_9 [(8, .int x_9), (0, .ref q0), (1, .int a1), (2, .int a2), (3, .int a3), (4, .int v4), (5, .int v5), (6, .int v6), (7, .int v7)] dX7_shorter_145 8 rfl (by subst ex_9; rfl) (by decide) rfl ?_
      refine a_goto C0 122 dX7_shorter_148 (by decide) ?_
      refine a_lv [1, 2, 3, 4, 5, 6, 7, 8, 0] (lv' := [(0, .ref q0), (1, .int a1), (2, .int a2), (3, .int a3), (4, .int v4), (5, .int v5), (6, .int v6), (7, .int v7), (8, .int x_9)]) rfl ?_
      exact hrc122 v4 v5 v6 v7 x_9 f0 f1_8 f2 f3 f4 f5 f6 f7 f8 f9 f10 f11 h
set_option maxHeartbeats 4000000 in
set_option maxRecDepth 100000 in
theorem bwX7_shorter_63 {p : Program} {l : Launch} {e : Env} {s : State} {m : MethodId} {args : Array Value} {below : List Frame} {meth : Method} {c : Code} {D : va_G} {A : Nat → Prop} {cA : ClassId} {q0 q1 q2 q3 q4 q5 q6 q7 q8 q9 q10 q11 q12 q13 : Nat} {res : Int32 × (Nat → Int32) × (Nat → Int32) × (Nat → Int32) × (Nat → Int32) × (Nat → Int32) × (Nat → Int32) × (Nat → Int32) × (Nat → Int32) × (Nat → Int32) × (Nat → Int32) × (Nat → Int32) × (Nat → Int32)} (C0 : cx p s m args meth c cX7_shorter 9 RX7 wsX7_shorter (some .int) D vwCl [(cA, .int)] A) (N : Nat) (a1 : Int32) (a2 : Int32) (a3 : Int32) (l0_31 : Int64) (l0_32 : Int64) (rc31 : Int32 → Int32 → Int32 → (Nat → Int32) → (Nat → Int32) → (Nat → Int32) → (Nat → Int32) → (Nat → Int32) → (Nat → Int32) → (Nat → Int32) → (Nat → Int32) → (Nat → Int32) → (Nat → Int32) → (Nat → Int32) → (Nat → Int32) → Option (Int32 × (Nat → Int32) × (Nat → Int32) × (Nat → Int32) × (Nat → Int32) × (Nat → Int32) × (Nat → Int32) × (Nat → Int32) × (Nat → Int32) × (Nat → Int32) × (Nat → Int32) × (Nat → Int32) × (Nat → Int32))) (hrc31 : ∀ (v4 : Int32) (v5 : Int32) (v6 : Int32) (f0 : Nat → Int32) (f1 : Nat → Int32) (f2 : Nat → Int32) (f3 : Nat → Int32) (f4 : Nat → Int32) (f5 : Nat → Int32) (f6 : Nat → Int32) (f7 : Nat → Int32) (f8 : Nat → Int32) (f9 : Nat → Int32) (f10 : Nat → Int32) (f11 : Nat → Int32), rc31 v4 v5 v6 f0 f1 f2 f3 f4 f5 f6 f7 f8 f9 f10 f11 = some res → At_ p l e (rmX7_shorter) s m args below meth c D vwCl A 9 0 0 (Qi_ below args s D vwCl A (wdX7_11 cA q0 q1 q2 q3 q4 q5 q6 q7 q8 q9 q10 q11 q12 q13 res.2.1 l0_31 l0_32 res.2.2.1 res.2.2.2.1 res.2.2.2.2.1 res.2.2.2.2.2.1 res.2.2.2.2.2.2.1 res.2.2.2.2.2.2.2.1 res.2.2.2.2.2.2.2.2.1 res.2.2.2.2.2.2.2.2.2.1 res.2.2.2.2.2.2.2.2.2.2.1 res.2.2.2.2.2.2.2.2.2.2.2.1 res.2.2.2.2.2.2.2.2.2.2.2.2) res.1) 31 [(0, .ref q0), (1, .int a1), (2, .int a2), (3, .int a3), (4, .int v4), (5, .int v5), (6, .int v6)] [] (wdX7_11 cA q0 q1 q2 q3 q4 q5 q6 q7 q8 q9 q10 q11 q12 q13 f0 l0_31 l0_32 f1 f2 f3 f4 f5 f6 f7 f8 f9 f10 f11)) : ∀ (n : Nat) (v4 : Int32) (v5 : Int32) (v6 : Int32) (v7 : Int32) (v8 : Int32) (f0 : Nat → Int32) (f1 : Nat → Int32) (f2 : Nat → Int32) (f3 : Nat → Int32) (f4 : Nat → Int32) (f5 : Nat → Int32) (f6 : Nat → Int32) (f7 : Nat → Int32) (f8 : Nat → Int32) (f9 : Nat → Int32) (f10 : Nat → Int32) (f11 : Nat → Int32), bfX7_shorter_63 N a1 a2 a3 l0_31 l0_32 rc31 n v4 v5 v6 v7 v8 f0 f1 f2 f3 f4 f5 f6 f7 f8 f9 f10 f11 = some res → At_ p l e (rmX7_shorter) s m args below meth c D vwCl A 9 0 0 (Qi_ below args s D vwCl A (wdX7_11 cA q0 q1 q2 q3 q4 q5 q6 q7 q8 q9 q10 q11 q12 q13 res.2.1 l0_31 l0_32 res.2.2.1 res.2.2.2.1 res.2.2.2.2.1 res.2.2.2.2.2.1 res.2.2.2.2.2.2.1 res.2.2.2.2.2.2.2.1 res.2.2.2.2.2.2.2.2.1 res.2.2.2.2.2.2.2.2.2.1 res.2.2.2.2.2.2.2.2.2.2.1 res.2.2.2.2.2.2.2.2.2.2.2.1 res.2.2.2.2.2.2.2.2.2.2.2.2) res.1) 63 [(0, .ref q0), (1, .int a1), (2, .int a2), (3, .int a3), (4, .int v4), (5, .int v5), (6, .int v6), (7, .int v7), (8, .int v8)] [] (wdX7_11 cA q0 q1 q2 q3 q4 q5 q6 q7 q8 q9 q10 q11 q12 q13 f0 l0_31 l0_32 f1 f2 f3 f4 f5 f6 f7 f8 f9 f10 f11) := by
  intro n
  induction n with
  | zero => intro v4 v5 v6 v7 v8 f0 f1 f2 f3 f4 f5 f6 f7 f8 f9 f10 f11 h; cases h
  | succ n hrc63 =>
    intro v4 v5 v6 v7 v8 f0 f1 f2 f3 f4 f5 f6 f7 f8 f9 f10 f11 h
    replace h : bFX7_shorter_63 N a1 a2 a3 l0_31 l0_32 rc31 (bfX7_shorter_63 N a1 a2 a3 l0_31 l0_32 rc31 n) v4 v5 v6 v7 v8 f0 f1 f2 f3 f4 f5 f6 f7 f8 f9 f10 f11 = some res := h
    generalize bfX7_shorter_63 N a1 a2 a3 l0_31 l0_32 rc31 n = rc63 at h hrc63
    unfold bFX7_shorter_63 at h
    refine a_iload C0 dX7_shorter_63 8 rfl ?_
    refine a_aload_n C0 dX7_shorter_65 rfl 0 rfl ?_
    refine a_get C0 inX7_shorter_X7 0 rfl rfl 1 (by decide) lkX7_shorter_53 (fun _ h9 => h9) (.int (f0 1)) rfl dX7_shorter_66 ?_
    refine a_icmp_ge C0 94 dX7_shorter_69 (by decide) (fun c_10 => ?_) (fun c_10 => ?_)
    · have h := it_ c_10 h
      refine a_aload_n C0 dX7_shorter_94 rfl 0 rfl ?_
      refine a_iload_n C0 dX7_shorter_95 rfl 1 rfl ?_
      refine a_iload_n C0 dX7_shorter_96 rfl 2 rfl ?_
      refine a_iload_n C0 dX7_shorter_97 rfl 3 rfl ?_
      obtain ⟨f0_11, f2_12, f3_13, f4_14, f5_15, f6_16, f7_17, f8_18, f9_19, f10_20, f11_21, h_22, h⟩ := bd11_e h
      refine a_callVv C0 (wdX7_11 cA q0 q1 q2 q3 q4 q5 q6 q7 q8 q9 q10 q11 q12 q13 f0_11 l0_31 l0_32 f1 f2_12 f3_13 f4_14 f5_15 f6_16 f7_17 f8_18 f9_19 f10_20 f11_21) (As := [.int a1, .int a2, .int a3]) (rest := []) (ctX7_run l D cA q0 q1 q2 q3 q4 q5 q6 q7 q8 q9 q10 q11 q12 q13 N a1 a2 a3 f0 l0_31 l0_32 f1 f2 f3 f4 f5 f6 f7 f8 f9 f10 f11 h_22) (cwV 3 C0.1.2.2.2.2 gX7_shorter_X7_run rfl rfl rfl hdX7_run ⟨Nat.le_of_ble_eq_true rfl, Nat.le_of_ble_eq_true rfl⟩) [0, 1, 2, 3, 4, 5, 6, 7, 8, 9, 10, 11] [] [0, 1, 2, 3, 4, 5, 6, 7, 8, 9, 10, 11] rfl rfl rfl rfl (by decide) rfl rfl rfl rfl rfl rfl (Nat.le_of_ble_eq_true rfl) dX7_shorter_98 ⟨Nat.zero_le _, Nat.zero_le _⟩ ?_
      refine a_aload_n C0 dX7_shorter_101 rfl 0 rfl ?_
      refine a_get C0 inX7_shorter_X7 0 rfl rfl 16 (by decide) lkX7_shorter_57 (fun _ h9 => h9) (.int (f0_11 16)) rfl dX7_shorter_102 ?_
      refine a_iload C0 dX7_shorter_105 4 rfl ?_
      refine a_icmp_ne C0 116 dX7_shorter_107 (by decide) (fun c_23 => ?_) (fun c_23 => ?_)
      · have h := ie_ c_23 h
        refine a_aload_n C0 dX7_shorter_116 rfl 0 rfl ?_
        refine a_get C0 inX7_shorter_X7 0 rfl rfl 1 (by decide) lkX7_shorter_53 (fun _ h9 => h9) (.int (f0_11 1)) rfl dX7_shorter_117 ?_
        obtain ⟨x_24, ex_24, h⟩ := lt_e h
        refine a_topi ex_24 ?_
        refine a_istore C0 [(8, .int x_24), (0, .ref q0), (1, .int a1), (2, .int a2), (3, .int a3), (4, .int v4), (5, .int v5), (6, .int v6), (7, .int v7)] dX7_shorter_120 (by decide) rfl ?_
        refine a_lv [1, 2, 3, 4, 5, 6, 7, 8, 0] (lv' := [(0, .ref q0), (1, .int a1), (2, .int a2), (3, .int a3), (4, .int v4), (5, .int v5), (6, .int v6), (7, .int v7), (8, .int x_24)]) rfl ?_
        exact bwX7_shorter_122 C0 N a1 a2 a3 l0_31 l0_32 rc31 hrc31 N v4 v5 v6 v7 x_24 f0_11 f1 f2_12 f3_13 f4_14 f5_15 f6_16 f7_17 f8_18 f9_19 f10_20 f11_21 h
      · have h := it_ c_23 h
        obtain ⟨x_25, ex_25, h⟩ := lt_e h
        refine a_iinc C0 x_25 [(5, .int x_25), (0, .ref q0), (1, .int a1), (2, .int a2), (3, .int a3), (4, .int v4), (6, .int v6), (7, .int v7), (8, .int v8)] dX7_shorter_110 5 rfl (by subst ex_25; rfl) (by decide) rfl ?_
        refine a_goto C0 173 dX7_shorter_113 (by decide) ?_
        refine a_lv [1, 2, 3, 4, 5, 0, 6] (lv' := [(0, .ref q0), (1, .int a1), (2, .int a2), (3, .int a3), (4, .int v4), (5, .int x_25), (6, .int v6)]) rfl ?_
        exact bwX7_shorter_173 C0 N a1 a2 a3 l0_31 l0_32 rc31 hrc31 v4 x_25 v6 f0_11 f1 f2_12 f3_13 f4_14 f5_15 f6_16 f7_17 f8_18 f9_19 f10_20 f11_21 h
    · have h := ie_ c_10 h
      refine a_aload_n C0 dX7_shorter_72 rfl 0 rfl ?_
      refine a_get C0 inX7_shorter_X7 0 rfl rfl 0 (by decide) lkX7_shorter_7 (fun _ h9 => h9) (.ref q1) rfl dX7_shorter_73 ?_
      refine a_iload C0 dX7_shorter_76 8 rfl ?_
      refine a_aload_n C0 dX7_shorter_78 rfl 0 rfl ?_
      refine a_get C0 inX7_shorter_X7 0 rfl rfl 0 (by decide) lkX7_shorter_7 (fun _ h9 => h9) (.ref q1) rfl dX7_shorter_79 ?_
      refine a_iload C0 dX7_shorter_82 8 rfl ?_
      refine a_iconst C0 (1 : Int32) dX7_shorter_84 (by decide) ?_
      refine a_iadd C0 dX7_shorter_85 ?_
      obtain ⟨g_26, h⟩ := gi_e h
      refine a_iald C0 1 0 rfl rfl g_26 dX7_shorter_86 ?_
      obtain ⟨g_27, h⟩ := gi_e h
      obtain ⟨f1_28, ef1_28, h⟩ := lt_e h
      refine a_iast C0 1 0 rfl rfl g_27 dX7_shorter_87 (wdX7_11 cA q0 q1 q2 q3 q4 q5 q6 q7 q8 q9 q10 q11 q12 q13 f0 l0_31 l0_32 f1_28 f2 f3 f4 f5 f6 f7 f8 f9 f10 f11) (by subst ef1_28; rfl) ?_
      obtain ⟨x_29, ex_29, h⟩ := lt_e h
      refine a_iinc C0 x_29 [(8, .int x_29), (0, .ref q0), (1, .int a1), (2, .int a2), (3, .int a3), (4, .int v4), (5, .int v5), (6, .int v6), (7, .int v7)] dX7_shorter_88 8 rfl (by subst ex_29; rfl) (by decide) rfl ?_
      refine a_goto C0 63 dX7_shorter_91 (by decide) ?_
      refine a_lv [1, 2, 3, 4, 5, 6, 7, 8, 0] (lv' := [(0, .ref q0), (1, .int a1), (2, .int a2), (3, .int a3), (4, .int v4), (5, .int v5), (6, .int v6), (7, .int v7), (8, .int x_29)]) rfl ?_
      exact hrc63 v4 v5 v6 v7 x_29 f0 f1_28 f2 f3 f4 f5 f6 f7 f8 f9 f10 f11 h
set_option maxHeartbeats 4000000 in
set_option maxRecDepth 100000 in
theorem bwX7_shorter_31 {p : Program} {l : Launch} {e : Env} {s : State} {m : MethodId} {args : Array Value} {below : List Frame} {meth : Method} {c : Code} {D : va_G} {A : Nat → Prop} {cA : ClassId} {q0 q1 q2 q3 q4 q5 q6 q7 q8 q9 q10 q11 q12 q13 : Nat} {res : Int32 × (Nat → Int32) × (Nat → Int32) × (Nat → Int32) × (Nat → Int32) × (Nat → Int32) × (Nat → Int32) × (Nat → Int32) × (Nat → Int32) × (Nat → Int32) × (Nat → Int32) × (Nat → Int32) × (Nat → Int32)} (C0 : cx p s m args meth c cX7_shorter 9 RX7 wsX7_shorter (some .int) D vwCl [(cA, .int)] A) (N : Nat) (a1 : Int32) (a2 : Int32) (a3 : Int32) (l0_31 : Int64) (l0_32 : Int64) : ∀ (n : Nat) (v4 : Int32) (v5 : Int32) (v6 : Int32) (f0 : Nat → Int32) (f1 : Nat → Int32) (f2 : Nat → Int32) (f3 : Nat → Int32) (f4 : Nat → Int32) (f5 : Nat → Int32) (f6 : Nat → Int32) (f7 : Nat → Int32) (f8 : Nat → Int32) (f9 : Nat → Int32) (f10 : Nat → Int32) (f11 : Nat → Int32), bfX7_shorter_31 N a1 a2 a3 l0_31 l0_32  n v4 v5 v6 f0 f1 f2 f3 f4 f5 f6 f7 f8 f9 f10 f11 = some res → At_ p l e (rmX7_shorter) s m args below meth c D vwCl A 9 0 0 (Qi_ below args s D vwCl A (wdX7_11 cA q0 q1 q2 q3 q4 q5 q6 q7 q8 q9 q10 q11 q12 q13 res.2.1 l0_31 l0_32 res.2.2.1 res.2.2.2.1 res.2.2.2.2.1 res.2.2.2.2.2.1 res.2.2.2.2.2.2.1 res.2.2.2.2.2.2.2.1 res.2.2.2.2.2.2.2.2.1 res.2.2.2.2.2.2.2.2.2.1 res.2.2.2.2.2.2.2.2.2.2.1 res.2.2.2.2.2.2.2.2.2.2.2.1 res.2.2.2.2.2.2.2.2.2.2.2.2) res.1) 31 [(0, .ref q0), (1, .int a1), (2, .int a2), (3, .int a3), (4, .int v4), (5, .int v5), (6, .int v6)] [] (wdX7_11 cA q0 q1 q2 q3 q4 q5 q6 q7 q8 q9 q10 q11 q12 q13 f0 l0_31 l0_32 f1 f2 f3 f4 f5 f6 f7 f8 f9 f10 f11) := by
  intro n
  induction n with
  | zero => intro v4 v5 v6 f0 f1 f2 f3 f4 f5 f6 f7 f8 f9 f10 f11 h; cases h
  | succ n hrc31 =>
    intro v4 v5 v6 f0 f1 f2 f3 f4 f5 f6 f7 f8 f9 f10 f11 h
    replace h : bFX7_shorter_31 N a1 a2 a3 l0_31 l0_32  (bfX7_shorter_31 N a1 a2 a3 l0_31 l0_32  n) v4 v5 v6 f0 f1 f2 f3 f4 f5 f6 f7 f8 f9 f10 f11 = some res := h
    generalize bfX7_shorter_31 N a1 a2 a3 l0_31 l0_32  n = rc31 at h hrc31
    unfold bFX7_shorter_31 at h
    refine a_iload C0 dX7_shorter_31 6 rfl ?_
    refine a_aload_n C0 dX7_shorter_33 rfl 0 rfl ?_
    refine a_get C0 inX7_shorter_X7 0 rfl rfl 1 (by decide) lkX7_shorter_53 (fun _ h9 => h9) (.int (f0 1)) rfl dX7_shorter_34 ?_
    refine a_icmp_ge C0 176 dX7_shorter_37 (by decide) (fun c_30 => ?_) (fun c_30 => ?_)
    · have h := it_ c_30 h
      refine a_iload C0 dX7_shorter_176 5 rfl ?_
      obtain rfl := Option.some.inj h
      exact a_iret C0 dX7_shorter_178 rfl rfl
    · have h := ie_ c_30 h
      refine a_aload_n C0 dX7_shorter_40 rfl 0 rfl ?_
      refine a_get C0 inX7_shorter_X7 0 rfl rfl 0 (by decide) lkX7_shorter_7 (fun _ h9 => h9) (.ref q1) rfl dX7_shorter_41 ?_
      refine a_iload C0 dX7_shorter_44 6 rfl ?_
      obtain ⟨g_31, h⟩ := gi_e h
      refine a_iald C0 1 0 rfl rfl g_31 dX7_shorter_46 ?_
      obtain ⟨x_32, ex_32, h⟩ := lt_e h
      refine a_topi ex_32 ?_
      refine a_istore C0 [(7, .int x_32), (0, .ref q0), (1, .int a1), (2, .int a2), (3, .int a3), (4, .int v4), (5, .int v5), (6, .int v6)] dX7_shorter_47 (by decide) rfl ?_
      refine a_aload_n C0 dX7_shorter_49 rfl 1 rfl ?_
      refine a_dup C0 dX7_shorter_50 rfl ?_
      refine a_get C0 inX7_shorter_X7 0 rfl rfl 1 (by decide) lkX7_shorter_53 (fun _ h9 => h9) (.int (f0 1)) rfl dX7_shorter_51 ?_
      refine a_iconst C0 (1 : Int32) dX7_shorter_54 (by decide) ?_
      refine a_isub C0 dX7_shorter_55 ?_
      obtain ⟨f0_33, ef0_33, h⟩ := lt_e h
      refine a_put C0 inX7_shorter_X7 tyX7 tyX7_ok nmX7 0 rfl rfl 1 (by decide) lkX7_shorter_53 (fun _ h9 => h9) rfl (ty := .int) (v := .int ((f0 1) - (1 : Int32))) (by decide +kernel) rfl rfl (Nat.le_of_ble_eq_true rfl) dX7_shorter_56 (wdX7_11 cA q0 q1 q2 q3 q4 q5 q6 q7 q8 q9 q10 q11 q12 q13 f0_33 l0_31 l0_32 f1 f2 f3 f4 f5 f6 f7 f8 f9 f10 f11) (by subst ef0_33; rfl) ?_
      refine a_iload C0 dX7_shorter_59 7 rfl ?_
      refine a_istore C0 [(8, .int v6), (7, .int x_32), (0, .ref q0), (1, .int a1), (2, .int a2), (3, .int a3), (4, .int v4), (5, .int v5), (6, .int v6)] dX7_shorter_61 (by decide) rfl ?_
      refine a_lv [2, 3, 4, 5, 6, 7, 8, 1, 0] (lv' := [(0, .ref q0), (1, .int a1), (2, .int a2), (3, .int a3), (4, .int v4), (5, .int v5), (6, .int v6), (7, .int x_32), (8, .int v6)]) rfl ?_
      exact bwX7_shorter_63 C0 N a1 a2 a3 l0_31 l0_32 rc31 hrc31 N v4 v5 v6 x_32 v6 f0_33 f1 f2 f3 f4 f5 f6 f7 f8 f9 f10 f11 h
set_option maxHeartbeats 4000000 in
set_option maxRecDepth 100000 in
theorem bwX7_shorter {p : Program} {l : Launch} {e : Env} {s : State} {m : MethodId} {args : Array Value} {below : List Frame} {meth : Method} {c : Code} {D : va_G} {A : Nat → Prop} {cA : ClassId} {q0 q1 q2 q3 q4 q5 q6 q7 q8 q9 q10 q11 q12 q13 : Nat} {res : Int32 × (Nat → Int32) × (Nat → Int32) × (Nat → Int32) × (Nat → Int32) × (Nat → Int32) × (Nat → Int32) × (Nat → Int32) × (Nat → Int32) × (Nat → Int32) × (Nat → Int32) × (Nat → Int32) × (Nat → Int32)} (C0 : cx p s m args meth c cX7_shorter 9 RX7 wsX7_shorter (some .int) D vwCl [(cA, .int)] A) (N : Nat) (a1 : Int32) (a2 : Int32) (a3 : Int32) (f0 : Nat → Int32) (l0_31 : Int64) (l0_32 : Int64) (f1 : Nat → Int32) (f2 : Nat → Int32) (f3 : Nat → Int32) (f4 : Nat → Int32) (f5 : Nat → Int32) (f6 : Nat → Int32) (f7 : Nat → Int32) (f8 : Nat → Int32) (f9 : Nat → Int32) (f10 : Nat → Int32) (f11 : Nat → Int32) (h : pX7_shorter N a1 a2 a3 f0 l0_31 l0_32 f1 f2 f3 f4 f5 f6 f7 f8 f9 f10 f11 = some res) : At_ p l e (rmX7_shorter) s m args below meth c D vwCl A 9 0 0 (Qi_ below args s D vwCl A (wdX7_11 cA q0 q1 q2 q3 q4 q5 q6 q7 q8 q9 q10 q11 q12 q13 res.2.1 l0_31 l0_32 res.2.2.1 res.2.2.2.1 res.2.2.2.2.1 res.2.2.2.2.2.1 res.2.2.2.2.2.2.1 res.2.2.2.2.2.2.2.1 res.2.2.2.2.2.2.2.2.1 res.2.2.2.2.2.2.2.2.2.1 res.2.2.2.2.2.2.2.2.2.2.1 res.2.2.2.2.2.2.2.2.2.2.2.1 res.2.2.2.2.2.2.2.2.2.2.2.2) res.1) 0 [(0, .ref q0), (1, .int a1), (2, .int a2), (3, .int a3)] [] (wdX7_11 cA q0 q1 q2 q3 q4 q5 q6 q7 q8 q9 q10 q11 q12 q13 f0 l0_31 l0_32 f1 f2 f3 f4 f5 f6 f7 f8 f9 f10 f11) := by
  unfold pX7_shorter at h
  refine a_iload_n C0 dX7_shorter_0 rfl 1 rfl ?_
  refine a_iload_n C0 dX7_shorter_1 rfl 2 rfl ?_
  refine a_iload_n C0 dX7_shorter_2 rfl 3 rfl ?_
  obtain ⟨r_34, h_35, h⟩ := bd1_e h
  refine a_callSi C0 (wdX7_11 cA q0 q1 q2 q3 q4 q5 q6 q7 q8 q9 q10 q11 q12 q13 f0 l0_31 l0_32 f1 f2 f3 f4 f5 f6 f7 f8 f9 f10 f11) (As := [.int a1, .int a2, .int a3]) (rest := []) (ctX7_isBound l D cA a1 a2 a3 h_35) (cwS 3 C0.1.2.2.2.2 gX7_shorter_X7_isBound rfl rfl rfl hdX7_isBound ⟨Nat.le_of_ble_eq_true rfl, Nat.le_of_ble_eq_true rfl⟩) [] [0, 1, 2, 3, 4, 5, 6, 7, 8, 9, 10, 11] [0, 1, 2, 3, 4, 5, 6, 7, 8, 9, 10, 11] rfl rfl rfl rfl (by decide) rfl rfl rfl rfl (Nat.le_of_ble_eq_true rfl) dX7_shorter_3 ⟨Nat.zero_le _, Nat.zero_le _⟩ ?_
  refine a_if_ne C0 12 dX7_shorter_6 (by decide) (fun c_36 => ?_) (fun c_36 => ?_)
  · have h := ie_ c_36 h
    refine a_aload_n C0 dX7_shorter_12 rfl 0 rfl ?_
    refine a_iload_n C0 dX7_shorter_13 rfl 1 rfl ?_
    refine a_iload_n C0 dX7_shorter_14 rfl 2 rfl ?_
    refine a_iload_n C0 dX7_shorter_15 rfl 3 rfl ?_
    obtain ⟨f0_37, f2_38, f3_39, f4_40, f5_41, f6_42, f7_43, f8_44, f9_45, f10_46, f11_47, h_48, h⟩ := bd11_e h
    refine a_callVv C0 (wdX7_11 cA q0 q1 q2 q3 q4 q5 q6 q7 q8 q9 q10 q11 q12 q13 f0_37 l0_31 l0_32 f1 f2_38 f3_39 f4_40 f5_41 f6_42 f7_43 f8_44 f9_45 f10_46 f11_47) (As := [.int a1, .int a2, .int a3]) (rest := []) (ctX7_run l D cA q0 q1 q2 q3 q4 q5 q6 q7 q8 q9 q10 q11 q12 q13 N a1 a2 a3 f0 l0_31 l0_32 f1 f2 f3 f4 f5 f6 f7 f8 f9 f10 f11 h_48) (cwV 3 C0.1.2.2.2.2 gX7_shorter_X7_run rfl rfl rfl hdX7_run ⟨Nat.le_of_ble_eq_true rfl, Nat.le_of_ble_eq_true rfl⟩) [0, 1, 2, 3, 4, 5, 6, 7, 8, 9, 10, 11] [] [0, 1, 2, 3, 4, 5, 6, 7, 8, 9, 10, 11] rfl rfl rfl rfl (by decide) rfl rfl rfl rfl rfl rfl (Nat.le_of_ble_eq_true rfl) dX7_shorter_16 ⟨Nat.zero_le _, Nat.zero_le _⟩ ?_
    refine a_aload_n C0 dX7_shorter_19 rfl 0 rfl ?_
    refine a_get C0 inX7_shorter_X7 0 rfl rfl 16 (by decide) lkX7_shorter_57 (fun _ h9 => h9) (.int (f0_37 16)) rfl dX7_shorter_20 ?_
    obtain ⟨x_49, ex_49, h⟩ := lt_e h
    refine a_topi ex_49 ?_
    refine a_istore C0 [(4, .int x_49), (0, .ref q0), (1, .int a1), (2, .int a2), (3, .int a3)] dX7_shorter_23 (by decide) rfl ?_
    refine a_iconst C0 (0 : Int32) dX7_shorter_25 (by decide) ?_
    refine a_istore C0 [(5, .int (0 : Int32)), (4, .int x_49), (0, .ref q0), (1, .int a1), (2, .int a2), (3, .int a3)] dX7_shorter_26 (by decide) rfl ?_
    refine a_iconst C0 (0 : Int32) dX7_shorter_28 (by decide) ?_
    refine a_istore C0 [(6, .int (0 : Int32)), (5, .int (0 : Int32)), (4, .int x_49), (0, .ref q0), (1, .int a1), (2, .int a2), (3, .int a3)] dX7_shorter_29 (by decide) rfl ?_
    refine a_lv [3, 4, 5, 6, 2, 1, 0] (lv' := [(0, .ref q0), (1, .int a1), (2, .int a2), (3, .int a3), (4, .int x_49), (5, .int (0 : Int32)), (6, .int (0 : Int32))]) rfl ?_
    exact bwX7_shorter_31 C0 N a1 a2 a3 l0_31 l0_32 N x_49 (0 : Int32) (0 : Int32) f0_37 f1 f2_38 f3_39 f4_40 f5_41 f6_42 f7_43 f8_44 f9_45 f10_46 f11_47 h
  · have h := it_ c_36 h
    refine a_bipush C0 (-2 : Int32) dX7_shorter_9 (by decide) ?_
    obtain rfl := Option.some.inj h
    exact a_iret C0 dX7_shorter_11 rfl rfl
set_option maxRecDepth 100000 in
theorem ctX7_shorter (l : Launch) (D : va_G) (cA : ClassId) (q0 q1 q2 q3 q4 q5 q6 q7 q8 q9 q10 q11 q12 q13 : Nat) (N : Nat) (a1 : Int32) (a2 : Int32) (a3 : Int32) (f0 : Nat → Int32) (l0_31 : Int64) (l0_32 : Int64) (f1 : Nat → Int32) (f2 : Nat → Int32) (f3 : Nat → Int32) (f4 : Nat → Int32) (f5 : Nat → Int32) (f6 : Nat → Int32) (f7 : Nat → Int32) (f8 : Nat → Int32) (f9 : Nat → Int32) (f10 : Nat → Int32) (f11 : Nat → Int32) {res : Int32 × (Nat → Int32) × (Nat → Int32) × (Nat → Int32) × (Nat → Int32) × (Nat → Int32) × (Nat → Int32) × (Nat → Int32) × (Nat → Int32) × (Nat → Int32) × (Nat → Int32) × (Nat → Int32) × (Nat → Int32)} (h : pX7_shorter N a1 a2 a3 f0 l0_31 l0_32 f1 f2 f3 f4 f5 f6 f7 f8 f9 f10 f11 = some res) : Cti l yX7_shorter wsX7_shorter (rmX7_shorter) D vwCl [(cA, .int)] [.ref q0, .int a1, .int a2, .int a3] (wdX7_11 cA q0 q1 q2 q3 q4 q5 q6 q7 q8 q9 q10 q11 q12 q13 f0 l0_31 l0_32 f1 f2 f3 f4 f5 f6 f7 f8 f9 f10 f11) (wdX7_11 cA q0 q1 q2 q3 q4 q5 q6 q7 q8 q9 q10 q11 q12 q13 res.2.1 l0_31 l0_32 res.2.2.1 res.2.2.2.1 res.2.2.2.2.1 res.2.2.2.2.2.1 res.2.2.2.2.2.2.1 res.2.2.2.2.2.2.2.1 res.2.2.2.2.2.2.2.2.1 res.2.2.2.2.2.2.2.2.2.1 res.2.2.2.2.2.2.2.2.2.2.1 res.2.2.2.2.2.2.2.2.2.2.2.1 res.2.2.2.2.2.2.2.2.2.2.2.2) 0 0 res.1 :=
  ct_i (maxL := 9) (cc := cX7_shorter) (by decide) rfl (Nat.le_of_ble_eq_true rfl) (fun p e s m below meth c C0 => bwX7_shorter C0 N a1 a2 a3 f0 l0_31 l0_32 f1 f2 f3 f4 f5 f6 f7 f8 f9 f10 f11 h)
