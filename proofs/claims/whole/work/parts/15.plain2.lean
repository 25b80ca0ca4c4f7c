/-! PackDrawer$PlainReader.readInner -/
theorem hdX3_giveInner : yX3_giveInner.cls = RX3 ∧ yX3_giveInner.cls ≠ "java/lang/invoke/MethodHandle" ∧ yX3_giveInner.cls ≠ "java/lang/invoke/VarHandle" ∧ (parseMethodDescriptor yX3_giveInner.desc).map (fun d => d.parameters.length) = some 3 := by decide +kernel
theorem hdX3_readPack : yX3_readPack.cls = RX3 ∧ yX3_readPack.cls ≠ "java/lang/invoke/MethodHandle" ∧ yX3_readPack.cls ≠ "java/lang/invoke/VarHandle" ∧ (parseMethodDescriptor yX3_readPack.desc).map (fun d => d.parameters.length) = some 1 := by decide +kernel
abbrev rmX3_readInner (F Lc : Nat) : Room := { frames := F + 1, cells := 0, slots := 0, locals := Lc + 24 }
theorem lkX3_readInner_40 : Cond.fieldLink RX3 40 RX3 (TX3 3).2.1 (TX3 3).2.2.1 ∈ wsX3_readInner := by decide +kernel
theorem inX3_readInner_X3 : ∀ w ∈ u_ws RX3 TX3 6, w ∈ wsX3_readInner := by decide +kernel
theorem lkX3_readInner_43 : Cond.fieldLink RX3 43 RX3 (TX3 4).2.1 (TX3 4).2.2.1 ∈ wsX3_readInner := by decide +kernel
theorem lkX3_readInner_15 : Cond.fieldLink RX3 15 RX3 (TX3 1).2.1 (TX3 1).2.2.1 ∈ wsX3_readInner := by decide +kernel
theorem lkX3_readInner_25 : Cond.fieldLink RX3 25 RX3 (TX3 2).2.1 (TX3 2).2.2.1 ∈ wsX3_readInner := by decide +kernel
theorem lkX3_readInner_30 : Cond.fieldLink RX3 30 RX3 (TX3 5).2.1 (TX3 5).2.2.1 ∈ wsX3_readInner := by decide +kernel
def bfX3_readInner_124 (N : Nat) (rp : Int32 → (Nat → Int32) → (Nat → Int32) → (Nat → Int32) → (Nat → Int32) → (Nat → Int32) → (Nat → Int32) → Option ((Nat → Int32) × (Nat → Int32) × (Nat → Int32) × (Nat → Int32))) (a1 : Int32) (a2 : Int32) (f1 : Nat → Int32) (f2 : Nat → Int32) (v4 : Int32) (v5 : Int32) (v6 : Int32) (f0 : Nat → Int32) (f3 : Nat → Int32) (f4 : Nat → Int32) (f5 : Nat → Int32) : Option ((Nat → Int32) × (Nat → Int32) × (Nat → Int32) × (Nat → Int32)) := lt_ (upd f0 3 v4) (fun f0_1 => lt_ (upd f0_1 4 v5) (fun f0_2 => bd3 (pX3_giveInner N v6 a1 a2 f0_2 f3 f4 f5) (fun f3_3 f4_4 f5_5 => some (f0_2, f3_3, f4_4, f5_5))))
def bfX3_readInner_46 (N : Nat) (rp : Int32 → (Nat → Int32) → (Nat → Int32) → (Nat → Int32) → (Nat → Int32) → (Nat → Int32) → (Nat → Int32) → Option ((Nat → Int32) × (Nat → Int32) × (Nat → Int32) × (Nat → Int32))) (a1 : Int32) (a2 : Int32) (f1 : Nat → Int32) (f2 : Nat → Int32) (v3 : Int32) (f0 : Nat → Int32) (f3 : Nat → Int32) (f4 : Nat → Int32) (f5 : Nat → Int32) : Option ((Nat → Int32) × (Nat → Int32) × (Nat → Int32) × (Nat → Int32)) := bd1 (pX0_failed f3) (fun r_7 => if r_7 = 0 then lt_ ((f0 3)) (fun x_10 => lt_ ((f0 4)) (fun x_11 => bd1 (pX4_top f4) (fun r_12 => lt_ (upd f0 3 ((f0 5) + v3)) (fun f0_14 => lt_ (upd f0_14 4 (a1 + (1 : Int32))) (fun f0_15 => bd4 (rp (a2 + (1 : Int32)) f0_15 f1 f2 f3 f4 f5) (fun f0_16 f3_17 f4_18 f5_19 => if (f0_16 3) ≤ (f0_16 5) then bfX3_readInner_124 N rp a1 a2 f1 f2 x_10 x_11 r_12 f0_16 f3_17 f4_18 f5_19 else bd1 (pX0_fail (2 : Int32) (a1 + (1 : Int32)) f3_17) (fun f3_22 => bfX3_readInner_124 N rp a1 a2 f1 f2 x_10 x_11 r_12 f0_16 f3_22 f4_18 f5_19))))))) else some (f0, f3, f4, f5))
def bfX3_readInner_16 (N : Nat) (rp : Int32 → (Nat → Int32) → (Nat → Int32) → (Nat → Int32) → (Nat → Int32) → (Nat → Int32) → (Nat → Int32) → Option ((Nat → Int32) × (Nat → Int32) × (Nat → Int32) × (Nat → Int32))) (a1 : Int32) (a2 : Int32) (f1 : Nat → Int32) (f2 : Nat → Int32) (f0 : Nat → Int32) (f3 : Nat → Int32) (f4 : Nat → Int32) (f5 : Nat → Int32) : Option ((Nat → Int32) × (Nat → Int32) × (Nat → Int32) × (Nat → Int32)) := bd3 (pX3_take a2 f0 f1 f2 f3) (fun r_24 f0_25 f3_26 => if ((f0_25 5) + r_24) ≤ (f0_25 3) then bfX3_readInner_46 N rp a1 a2 f1 f2 r_24 f0_25 f3_26 f4 f5 else bd1 (pX0_fail (2 : Int32) (a1 + (1 : Int32)) f3_26) (fun f3_29 => bfX3_readInner_46 N rp a1 a2 f1 f2 r_24 f0_25 f3_29 f4 f5))
def pX3_readInner (N : Nat) (rp : Int32 → (Nat → Int32) → (Nat → Int32) → (Nat → Int32) → (Nat → Int32) → (Nat → Int32) → (Nat → Int32) → Option ((Nat → Int32) × (Nat → Int32) × (Nat → Int32) × (Nat → Int32))) (a1 : Int32) (a2 : Int32) (f0 : Nat → Int32) (f1 : Nat → Int32) (f2 : Nat → Int32) (f3 : Nat → Int32) (f4 : Nat → Int32) (f5 : Nat → Int32) : Option ((Nat → Int32) × (Nat → Int32) × (Nat → Int32) × (Nat → Int32)) := if a2 < (6 : Int32) then bfX3_readInner_16 N rp a1 a2 f1 f2 f0 f3 f4 f5 else bd1 (pX0_fail (6 : Int32) a1 f3) (fun f3_32 => bfX3_readInner_16 N rp a1 a2 f1 f2 f0 f3_32 f4 f5)
set_option maxHeartbeats 4000000 in
set_option maxRecDepth 100000 in
theorem bwX3_readInner_124 {p : Program} {l : Launch} {e : Env} {s : State} {m : MethodId} {args : Array Value} {below : List Frame} {meth : Method} {c : Code} {D : va_G} {A : Nat → Prop} {cA : ClassId} {q0 q1 q2 q3 q4 q5 : Nat} {res : (Nat → Int32) × (Nat → Int32) × (Nat → Int32) × (Nat → Int32)} {F Lc : Nat} (C0 : cx p s m args meth c cX3_readInner 7 RX3 wsX3_readInner none D vwCl [(cA, .int)] A) (N : Nat) (rp : Int32 → (Nat → Int32) → (Nat → Int32) → (Nat → Int32) → (Nat → Int32) → (Nat → Int32) → (Nat → Int32) → Option ((Nat → Int32) × (Nat → Int32) × (Nat → Int32) × (Nat → Int32))) (a1 : Int32) (a2 : Int32) (f1 : Nat → Int32) (f2 : Nat → Int32) (hF : 5 ≤ F) (hL : 112 ≤ Lc) (hrp : ∀ (q0 q1 q2 q3 q4 q5 : Nat) (b1 : Int32) (f0 : Nat → Int32) (f1 : Nat → Int32) (f2 : Nat → Int32) (f3 : Nat → Int32) (f4 : Nat → Int32) (f5 : Nat → Int32) {rs : (Nat → Int32) × (Nat → Int32) × (Nat → Int32) × (Nat → Int32)}, rp b1 f0 f1 f2 f3 f4 f5 = some rs → Ctv l yX3_readPack wsX3_readPack { frames := F, cells := 0, slots := 0, locals := Lc } D vwCl [(cA, .int)] [.ref q0, .int b1] (wdX3_1 cA q0 q1 q2 q3 q4 q5 f0 f1 f2 f3 f4 f5) (wdX3_1 cA q0 q1 q2 q3 q4 q5 rs.1 f1 f2 rs.2.1 rs.2.2.1 rs.2.2.2) 0 0) (v4 : Int32) (v5 : Int32) (v6 : Int32) (f0 : Nat → Int32) (f3 : Nat → Int32) (f4 : Nat → Int32) (f5 : Nat → Int32) (h : bfX3_readInner_124 N rp a1 a2 f1 f2  v4 v5 v6 f0 f3 f4 f5 = some res) : At_ p l e (rmX3_readInner F Lc) s m args below meth c D vwCl A 7 0 0 (Qv_ below args s D vwCl A (wdX3_1 cA q0 q1 q2 q3 q4 q5 res.1 f1 f2 res.2.1 res.2.2.1 res.2.2.2)) 124 [(0, .ref q0), (1, .int a1), (2, .int a2), (4, .int v4), (5, .int v5), (6, .int v6)] [] (wdX3_1 cA q0 q1 q2 q3 q4 q5 f0 f1 f2 f3 f4 f5) := by
  unfold bfX3_readInner_124 at h
  refine a_aload_n C0 dX3_readInner_124 rfl 0 rfl ?_
  refine a_iload C0 dX3_readInner_125 3 rfl ?_
  obtain ⟨f0_1, ef0_1, h⟩ := lt_e h
  refine a_put C0 inX3_readInner_X3 tyX3 tyX3_ok nmX3 0 rfl rfl 3 (by decide) lkX3_readInner_40 (fun _ h9 => h9) rfl (ty := .int) (v := .int v4) (by decide +kernel) rfl rfl (Nat.le_of_ble_eq_true rfl) dX3_readInner_127 (wdX3_1 cA q0 q1 q2 q3 q4 q5 f0_1 f1 f2 f3 f4 f5) (by subst ef0_1; rfl) ?_
  refine a_aload_n C0 dX3_readInner_130 rfl 0 rfl ?_
  refine a_iload C0 dX3_readInner_131 4 rfl ?_
  obtain ⟨f0_2, ef0_2, h⟩ := lt_e h
  refine a_put C0 inX3_readInner_X3 tyX3 tyX3_ok nmX3 0 rfl rfl 4 (by decide) lkX3_readInner_43 (fun _ h9 => h9) rfl (ty := .int) (v := .int v5) (by decide +kernel) rfl rfl (Nat.le_of_ble_eq_true rfl) dX3_readInner_133 (wdX3_1 cA q0 q1 q2 q3 q4 q5 f0_2 f1 f2 f3 f4 f5) (by subst ef0_2; rfl) ?_
  refine a_aload_n C0 dX3_readInner_136 rfl 0 rfl ?_
  refine a_iload C0 dX3_readInner_137 5 rfl ?_
  refine a_iload_n C0 dX3_readInner_139 rfl 1 rfl ?_
  refine a_iload_n C0 dX3_readInner_140 rfl 2 rfl ?_
  obtain ⟨f3_3, f4_4, f5_5, h_6, h⟩ := bd3_e h
  refine a_callVv C0 (wdX3_1 cA q0 q1 q2 q3 q4 q5 f0_2 f1 f2 f3_3 f4_4 f5_5) (As := [.int v6, .int a1, .int a2]) (rest := []) (ctX3_giveInner l D cA q0 q1 q3 q4 q5 N v6 a1 a2 f0_2 f3 f4 f5 h_6) (cwV 3 C0.1.2.2.2.2 gX3_readInner_X3_giveInner rfl rfl rfl hdX3_giveInner ⟨by dsimp only; omega, by dsimp only; omega⟩) [0, 3, 4, 5] [1, 2] [2, 0, 1, 3, 4, 5] rfl rfl rfl rfl (by decide) rfl rfl rfl rfl rfl rfl (Nat.le_of_ble_eq_true rfl) dX3_readInner_141 ⟨Nat.zero_le _, Nat.zero_le _⟩ ?_
  obtain rfl := Option.some.inj h
  exact a_vret C0 dX3_readInner_144 rfl
set_option maxHeartbeats 4000000 in
set_option maxRecDepth 100000 in
theorem bwX3_readInner_46 {p : Program} {l : Launch} {e : Env} {s : State} {m : MethodId} {args : Array Value} {below : List Frame} {meth : Method} {c : Code} {D : va_G} {A : Nat → Prop} {cA : ClassId} {q0 q1 q2 q3 q4 q5 : Nat} {res : (Nat → Int32) × (Nat → Int32) × (Nat → Int32) × (Nat → Int32)} {F Lc : Nat} (C0 : cx p s m args meth c cX3_readInner 7 RX3 wsX3_readInner none D vwCl [(cA, .int)] A) (N : Nat) (rp : Int32 → (Nat → Int32) → (Nat → Int32) → (Nat → Int32) → (Nat → Int32) → (Nat → Int32) → (Nat → Int32) → Option ((Nat → Int32) × (Nat → Int32) × (Nat → Int32) × (Nat → Int32))) (a1 : Int32) (a2 : Int32) (f1 : Nat → Int32) (f2 : Nat → Int32) (hF : 5 ≤ F) (hL : 112 ≤ Lc) (hrp : ∀ (q0 q1 q2 q3 q4 q5 : Nat) (b1 : Int32) (f0 : Nat → Int32) (f1 : Nat → Int32) (f2 : Nat → Int32) (f3 : Nat → Int32) (f4 : Nat → Int32) (f5 : Nat → Int32) {rs : (Nat → Int32) × (Nat → Int32) × (Nat → Int32) × (Nat → Int32)}, rp b1 f0 f1 f2 f3 f4 f5 = some rs → Ctv l yX3_readPack wsX3_readPack { frames := F, cells := 0, slots := 0, locals := Lc } D vwCl [(cA, .int)] [.ref q0, .int b1] (wdX3_1 cA q0 q1 q2 q3 q4 q5 f0 f1 f2 f3 f4 f5) (wdX3_1 cA q0 q1 q2 q3 q4 q5 rs.1 f1 f2 rs.2.1 rs.2.2.1 rs.2.2.2) 0 0) (v3 : Int32) (f0 : Nat → Int32) (f3 : Nat → Int32) (f4 : Nat → Int32) (f5 : Nat → Int32) (h : bfX3_readInner_46 N rp a1 a2 f1 f2  v3 f0 f3 f4 f5 = some res) : At_ p l e (rmX3_readInner F Lc) s m args below meth c D vwCl A 7 0 0 (Qv_ below args s D vwCl A (wdX3_1 cA q0 q1 q2 q3 q4 q5 res.1 f1 f2 res.2.1 res.2.2.1 res.2.2.2)) 46 [(0, .ref q0), (1, .int a1), (2, .int a2), (3, .int v3)] [] (wdX3_1 cA q0 q1 q2 q3 q4 q5 f0 f1 f2 f3 f4 f5) := by
  unfold bfX3_readInner_46 at h
  refine a_aload_n C0 dX3_readInner_46 rfl 0 rfl ?_
  refine a_get C0 inX3_readInner_X3 0 rfl rfl 1 (by decide) lkX3_readInner_15 (fun _ h9 => h9) (.ref q3) rfl dX3_readInner_47 ?_
  obtain ⟨r_7, h_8, h⟩ := bd1_e h
  refine a_callVi C0 (wdX3_1 cA q0 q1 q2 q3 q4 q5 f0 f1 f2 f3 f4 f5) (As := []) (rest := []) (ctX0_failed l D cA q3 q4 f3 h_8) (cwV 0 C0.1.2.2.2.2 gX3_readInner_X0_failed rfl rfl rfl hdX0_failed ⟨by dsimp only; omega, by dsimp only; omega⟩) [3] [0, 1, 2, 4, 5] [0, 1, 2, 5, 3, 4] rfl rfl rfl rfl (by decide) rfl rfl rfl rfl rfl rfl (Nat.le_of_ble_eq_true rfl) dX3_readInner_50 ⟨Nat.zero_le _, Nat.zero_le _⟩ ?_
  refine a_if_eq C0 57 dX3_readInner_53 (by decide) (fun c_9 => ?_) (fun c_9 => ?_)
  · have h := it_ c_9 h
    refine a_aload_n C0 dX3_readInner_57 rfl 0 rfl ?_
    refine a_get C0 inX3_readInner_X3 0 rfl rfl 3 (by decide) lkX3_readInner_40 (fun _ h9 => h9) (.int (f0 3)) rfl dX3_readInner_58 ?_
    obtain ⟨x_10, ex_10, h⟩ := lt_e h
    refine a_topi ex_10 ?_
    refine a_istore C0 [(4, .int x_10), (0, .ref q0), (1, .int a1), (2, .int a2), (3, .int v3)] dX3_readInner_61 (by decide) rfl ?_
    refine a_aload_n C0 dX3_readInner_63 rfl 1 rfl ?_
    refine a_get C0 inX3_readInner_X3 0 rfl rfl 4 (by decide) lkX3_readInner_43 (fun _ h9 => h9) (.int (f0 4)) rfl dX3_readInner_64 ?_
    obtain ⟨x_11, ex_11, h⟩ := lt_e h
    refine a_topi ex_11 ?_
    refine a_istore C0 [(5, .int x_11), (4, .int x_10), (0, .ref q0), (1, .int a1), (2, .int a2), (3, .int v3)] dX3_readInner_67 (by decide) rfl ?_
    refine a_aload_n C0 dX3_readInner_69 rfl 2 rfl ?_
    refine a_get C0 inX3_readInner_X3 0 rfl rfl 2 (by decide) lkX3_readInner_25 (fun _ h9 => h9) (.ref q4) rfl dX3_readInner_70 ?_
    obtain ⟨r_12, h_13, h⟩ := bd1_e h
    refine a_callVi C0 (wdX3_1 cA q0 q1 q2 q3 q4 q5 f0 f1 f2 f3 f4 f5) (As := []) (rest := []) (ctX4_top l D cA q4 q5 f4 h_13) (cwV 0 C0.1.2.2.2.2 gX3_readInner_X4_top rfl rfl rfl hdX4_top ⟨by dsimp only; omega, by dsimp only; omega⟩) [4] [0, 1, 2, 3, 5] [0, 1, 2, 3, 5, 4] rfl rfl rfl rfl (by decide) rfl rfl rfl rfl rfl rfl (Nat.le_of_ble_eq_true rfl) dX3_readInner_73 ⟨Nat.zero_le _, Nat.zero_le _⟩ ?_
    refine a_istore C0 [(6, .int r_12), (5, .int x_11), (4, .int x_10), (0, .ref q0), (1, .int a1), (2, .int a2), (3, .int v3)] dX3_readInner_76 (by decide) rfl ?_
    refine a_aload_n C0 dX3_readInner_78 rfl 3 rfl ?_
    refine a_aload_n C0 dX3_readInner_79 rfl 3 rfl ?_
    refine a_get C0 inX3_readInner_X3 0 rfl rfl 5 (by decide) lkX3_readInner_30 (fun _ h9 => h9) (.int (f0 5)) rfl dX3_readInner_80 ?_
    refine a_iload_n C0 dX3_readInner_83 rfl 6 rfl ?_
    refine a_iadd C0 dX3_readInner_84 ?_
    obtain ⟨f0_14, ef0_14, h⟩ := lt_e h
    refine a_put C0 inX3_readInner_X3 tyX3 tyX3_ok nmX3 0 rfl rfl 3 (by decide) lkX3_readInner_40 (fun _ h9 => h9) rfl (ty := .int) (v := .int ((f0 5) + v3)) (by decide +kernel) rfl rfl (Nat.le_of_ble_eq_true rfl) dX3_readInner_85 (wdX3_1 cA q0 q1 q2 q3 q4 q5 f0_14 f1 f2 f3 f4 f5) (by subst ef0_14; rfl) ?_
    refine a_aload_n C0 dX3_readInner_88 rfl 3 rfl ?_
    refine a_iload_n C0 dX3_readInner_89 rfl 4 rfl ?_
    refine a_iconst C0 (1 : Int32) dX3_readInner_90 (by decide) ?_
    refine a_iadd C0 dX3_readInner_91 ?_
    obtain ⟨f0_15, ef0_15, h⟩ := lt_e h
    refine a_put C0 inX3_readInner_X3 tyX3 tyX3_ok nmX3 0 rfl rfl 4 (by decide) lkX3_readInner_43 (fun _ h9 => h9) rfl (ty := .int) (v := .int (a1 + (1 : Int32))) (by decide +kernel) rfl rfl (Nat.le_of_ble_eq_true rfl) dX3_readInner_92 (wdX3_1 cA q0 q1 q2 q3 q4 q5 f0_15 f1 f2 f3 f4 f5) (by subst ef0_15; rfl) ?_
    refine a_aload_n C0 dX3_readInner_95 rfl 3 rfl ?_
    refine a_iload_n C0 dX3_readInner_96 rfl 5 rfl ?_
    refine a_iconst C0 (1 : Int32) dX3_readInner_97 (by decide) ?_
    refine a_iadd C0 dX3_readInner_98 ?_
    obtain ⟨f0_16, f3_17, f4_18, f5_19, h_20, h⟩ := bd4_e h
    refine a_callVv C0 (wdX3_1 cA q0 q1 q2 q3 q4 q5 f0_16 f1 f2 f3_17 f4_18 f5_19) (As := [.int (a2 + (1 : Int32))]) (rest := []) (hrp q0 q1 q2 q3 q4 q5 (a2 + (1 : Int32)) f0_15 f1 f2 f3 f4 f5 h_20) (cwV 1 C0.1.2.2.2.2 gX3_readInner_X3_readPack rfl rfl rfl hdX3_readPack ⟨by dsimp only; omega, by dsimp only; omega⟩) [0, 1, 2, 3, 4, 5] [] [0, 1, 2, 3, 4, 5] rfl rfl rfl rfl (by decide) rfl rfl rfl rfl rfl rfl (Nat.le_of_ble_eq_true rfl) dX3_readInner_99 ⟨Nat.zero_le _, Nat.zero_le _⟩ ?_
    refine a_aload_n C0 dX3_readInner_102 rfl 3 rfl ?_
    refine a_get C0 inX3_readInner_X3 0 rfl rfl 5 (by decide) lkX3_readInner_30 (fun _ h9 => h9) (.int (f0_16 5)) rfl dX3_readInner_103 ?_
    refine a_aload_n C0 dX3_readInner_106 rfl 3 rfl ?_
    refine a_get C0 inX3_readInner_X3 0 rfl rfl 3 (by decide) lkX3_readInner_40 (fun _ h9 => h9) (.int (f0_16 3)) rfl dX3_readInner_107 ?_
    refine a_icmp_ge C0 124 dX3_readInner_110 (by decide) (fun c_21 => ?_) (fun c_21 => ?_)
    · have h := it_ c_21 h
      refine a_lv [3, 4, 5, 2, 1, 0] (lv' := [(0, .ref q0), (1, .int a1), (2, .int a2), (4, .int x_10), (5, .int x_11), (6, .int r_12)]) rfl ?_
      exact bwX3_readInner_124 C0 N rp a1 a2 f1 f2 hF hL hrp x_10 x_11 r_12 f0_16 f3_17 f4_18 f5_19 h
    · have h := ie_ c_21 h
      refine a_aload_n C0 dX3_readInner_113 rfl 3 rfl ?_
      refine a_get C0 inX3_readInner_X3 0 rfl rfl 1 (by decide) lkX3_readInner_15 (fun _ h9 => h9) (.ref q3) rfl dX3_readInner_114 ?_
      refine a_iconst C0 (2 : Int32) dX3_readInner_117 (by decide) ?_
      refine a_iload_n C0 dX3_readInner_118 rfl 4 rfl ?_
      refine a_iconst C0 (1 : Int32) dX3_readInner_119 (by decide) ?_
      refine a_iadd C0 dX3_readInner_120 ?_
      obtain ⟨f3_22, h_23, h⟩ := bd1_e h
      refine a_callVv C0 (wdX3_1 cA q0 q1 q2 q3 q4 q5 f0_16 f1 f2 f3_22 f4_18 f5_19) (As := [.int (2 : Int32), .int (a1 + (1 : Int32))]) (rest := []) (ctX0_fail l D cA q3 q4 (2 : Int32) (a1 + (1 : Int32)) f3_17 h_23) (cwV 2 C0.1.2.2.2.2 gX3_readInner_X0_fail rfl rfl rfl hdX0_fail ⟨by dsimp only; omega, by dsimp only; omega⟩) [3] [0, 1, 2, 4, 5] [0, 1, 2, 5, 3, 4] rfl rfl rfl rfl (by decide) rfl rfl rfl rfl rfl rfl (Nat.le_of_ble_eq_true rfl) dX3_readInner_121 ⟨Nat.zero_le _, Nat.zero_le _⟩ ?_
      refine a_lv [3, 4, 5, 2, 1, 0] (lv' := [(0, .ref q0), (1, .int a1), (2, .int a2), (4, .int x_10), (5, .int x_11), (6, .int r_12)]) rfl ?_
      exact bwX3_readInner_124 C0 N rp a1 a2 f1 f2 hF hL hrp x_10 x_11 r_12 f0_16 f3_22 f4_18 f5_19 h
  · have h := ie_ c_9 h
    obtain rfl := Option.some.inj h
    exact a_vret C0 dX3_readInner_56 rfl
set_option maxHeartbeats 4000000 in
set_option maxRecDepth 100000 in
theorem bwX3_readInner_16 {p : Program} {l : Launch} {e : Env} {s : State} {m : MethodId} {args : Array Value} {below : List Frame} {meth : Method} {c : Code} {D : va_G} {A : Nat → Prop} {cA : ClassId} {q0 q1 q2 q3 q4 q5 : Nat} {res : (Nat → Int32) × (Nat → Int32) × (Nat → Int32) × (Nat → Int32)} {F Lc : Nat} (C0 : cx p s m args meth c cX3_readInner 7 RX3 wsX3_readInner none D vwCl [(cA, .int)] A) (N : Nat) (rp : Int32 → (Nat → Int32) → (Nat → Int32) → (Nat → Int32) → (Nat → Int32) → (Nat → Int32) → (Nat → Int32) → Option ((Nat → Int32) × (Nat → Int32) × (Nat → Int32) × (Nat → Int32))) (a1 : Int32) (a2 : Int32) (f1 : Nat → Int32) (f2 : Nat → Int32) (hF : 5 ≤ F) (hL : 112 ≤ Lc) (hrp : ∀ (q0 q1 q2 q3 q4 q5 : Nat) (b1 : Int32) (f0 : Nat → Int32) (f1 : Nat → Int32) (f2 : Nat → Int32) (f3 : Nat → Int32) (f4 : Nat → Int32) (f5 : Nat → Int32) {rs : (Nat → Int32) × (Nat → Int32) × (Nat → Int32) × (Nat → Int32)}, rp b1 f0 f1 f2 f3 f4 f5 = some rs → Ctv l yX3_readPack wsX3_readPack { frames := F, cells := 0, slots := 0, locals := Lc } D vwCl [(cA, .int)] [.ref q0, .int b1] (wdX3_1 cA q0 q1 q2 q3 q4 q5 f0 f1 f2 f3 f4 f5) (wdX3_1 cA q0 q1 q2 q3 q4 q5 rs.1 f1 f2 rs.2.1 rs.2.2.1 rs.2.2.2) 0 0) (f0 : Nat → Int32) (f3 : Nat → Int32) (f4 : Nat → Int32) (f5 : Nat → Int32) (h : bfX3_readInner_16 N rp a1 a2 f1 f2  f0 f3 f4 f5 = some res) : At_ p l e (rmX3_readInner F Lc) s m args below meth c D vwCl A 7 0 0 (Qv_ below args s D vwCl A (wdX3_1 cA q0 q1 q2 q3 q4 q5 res.1 f1 f2 res.2.1 res.2.2.1 res.2.2.2)) 16 [(0, .ref q0), (1, .int a1), (2, .int a2)] [] (wdX3_1 cA q0 q1 q2 q3 q4 q5 f0 f1 f2 f3 f4 f5) := by
  unfold bfX3_readInner_16 at h
  refine a_aload_n C0 dX3_readInner_16 rfl 0 rfl ?_
  refine a_iload_n C0 dX3_readInner_17 rfl 2 rfl ?_
  obtain ⟨r_24, f0_25, f3_26, h_27, h⟩ := bd3_e h
  refine a_callVi C0 (wdX3_1 cA q0 q1 q2 q3 q4 q5 f0_25 f1 f2 f3_26 f4 f5) (As := [.int a2]) (rest := []) (ctX3_take l D cA q0 q1 q2 q3 q4 a2 f0 f1 f2 f3 h_27) (cwV 1 C0.1.2.2.2.2 gX3_readInner_X3_take rfl rfl rfl hdX3_take ⟨by dsimp only; omega, by dsimp only; omega⟩) [0, 1, 2, 3] [4, 5] [2, 3, 4, 5, 0, 1] rfl rfl rfl rfl (by decide) rfl rfl rfl rfl rfl rfl (Nat.le_of_ble_eq_true rfl) dX3_readInner_18 ⟨Nat.zero_le _, Nat.zero_le _⟩ ?_
  refine a_istore_n C0 [(3, .int r_24), (0, .ref q0), (1, .int a1), (2, .int a2)] dX3_readInner_21 rfl (by decide) rfl ?_
  refine a_aload_n C0 dX3_readInner_22 rfl 1 rfl ?_
  refine a_get C0 inX3_readInner_X3 0 rfl rfl 5 (by decide) lkX3_readInner_30 (fun _ h9 => h9) (.int (f0_25 5)) rfl dX3_readInner_23 ?_
  refine a_iload_n C0 dX3_readInner_26 rfl 0 rfl ?_
  refine a_iadd C0 dX3_readInner_27 ?_
  refine a_aload_n C0 dX3_readInner_28 rfl 1 rfl ?_
  refine a_get C0 inX3_readInner_X3 0 rfl rfl 3 (by decide) lkX3_readInner_40 (fun _ h9 => h9) (.int (f0_25 3)) rfl dX3_readInner_29 ?_
  refine a_icmp_le C0 46 dX3_readInner_32 (by decide) (fun c_28 => ?_) (fun c_28 => ?_)
  · have h := it_ c_28 h
    refine a_lv [1, 2, 3, 0] (lv' := [(0, .ref q0), (1, .int a1), (2, .int a2), (3, .int r_24)]) rfl ?_
    exact bwX3_readInner_46 C0 N rp a1 a2 f1 f2 hF hL hrp r_24 f0_25 f3_26 f4 f5 h
  · have h := ie_ c_28 h
    refine a_aload_n C0 dX3_readInner_35 rfl 1 rfl ?_
    refine a_get C0 inX3_readInner_X3 0 rfl rfl 1 (by decide) lkX3_readInner_15 (fun _ h9 => h9) (.ref q3) rfl dX3_readInner_36 ?_
    refine a_iconst C0 (2 : Int32) dX3_readInner_39 (by decide) ?_
    refine a_iload_n C0 dX3_readInner_40 rfl 2 rfl ?_
    refine a_iconst C0 (1 : Int32) dX3_readInner_41 (by decide) ?_
    refine a_iadd C0 dX3_readInner_42 ?_
    obtain ⟨f3_29, h_30, h⟩ := bd1_e h
    refine a_callVv C0 (wdX3_1 cA q0 q1 q2 q3 q4 q5 f0_25 f1 f2 f3_29 f4 f5) (As := [.int (2 : Int32), .int (a1 + (1 : Int32))]) (rest := []) (ctX0_fail l D cA q3 q4 (2 : Int32) (a1 + (1 : Int32)) f3_26 h_30) (cwV 2 C0.1.2.2.2.2 gX3_readInner_X0_fail rfl rfl rfl hdX0_fail ⟨by dsimp only; omega, by dsimp only; omega⟩) [3] [0, 1, 2, 4, 5] [0, 1, 2, 5, 3, 4] rfl rfl rfl rfl (by decide) rfl rfl rfl rfl rfl rfl (Nat.le_of_ble_eq_true rfl) dX3_readInner_43 ⟨Nat.zero_le _, Nat.zero_le _⟩ ?_
    refine a_lv [1, 2, 3, 0] (lv' := [(0, .ref q0), (1, .int a1), (2, .int a2), (3, .int r_24)]) rfl ?_
    exact bwX3_readInner_46 C0 N rp a1 a2 f1 f2 hF hL hrp r_24 f0_25 f3_29 f4 f5 h
set_option maxHeartbeats 4000000 in
set_option maxRecDepth 100000 in
theorem bwX3_readInner {p : Program} {l : Launch} {e : Env} {s : State} {m : MethodId} {args : Array Value} {below : List Frame} {meth : Method} {c : Code} {D : va_G} {A : Nat → Prop} {cA : ClassId} {q0 q1 q2 q3 q4 q5 : Nat} {res : (Nat → Int32) × (Nat → Int32) × (Nat → Int32) × (Nat → Int32)} {F Lc : Nat} (C0 : cx p s m args meth c cX3_readInner 7 RX3 wsX3_readInner none D vwCl [(cA, .int)] A) (N : Nat) (rp : Int32 → (Nat → Int32) → (Nat → Int32) → (Nat → Int32) → (Nat → Int32) → (Nat → Int32) → (Nat → Int32) → Option ((Nat → Int32) × (Nat → Int32) × (Nat → Int32) × (Nat → Int32))) (a1 : Int32) (a2 : Int32) (f0 : Nat → Int32) (f1 : Nat → Int32) (f2 : Nat → Int32) (f3 : Nat → Int32) (f4 : Nat → Int32) (f5 : Nat → Int32) (hF : 5 ≤ F) (hL : 112 ≤ Lc) (hrp : ∀ (q0 q1 q2 q3 q4 q5 : Nat) (b1 : Int32) (f0 : Nat → Int32) (f1 : Nat → Int32) (f2 : Nat → Int32) (f3 : Nat → Int32) (f4 : Nat → Int32) (f5 : Nat → Int32) {rs : (Nat → Int32) × (Nat → Int32) × (Nat → Int32) × (Nat → Int32)}, rp b1 f0 f1 f2 f3 f4 f5 = some rs → Ctv l yX3_readPack wsX3_readPack { frames := F, cells := 0, slots := 0, locals := Lc } D vwCl [(cA, .int)] [.ref q0, .int b1] (wdX3_1 cA q0 q1 q2 q3 q4 q5 f0 f1 f2 f3 f4 f5) (wdX3_1 cA q0 q1 q2 q3 q4 q5 rs.1 f1 f2 rs.2.1 rs.2.2.1 rs.2.2.2) 0 0) (h : pX3_readInner N rp a1 a2 f0 f1 f2 f3 f4 f5 = some res) : At_ p l e (rmX3_readInner F Lc) s m args below meth c D vwCl A 7 0 0 (Qv_ below args s D vwCl A (wdX3_1 cA q0 q1 q2 q3 q4 q5 res.1 f1 f2 res.2.1 res.2.2.1 res.2.2.2)) 0 [(0, .ref q0), (1, .int a1), (2, .int a2)] [] (wdX3_1 cA q0 q1 q2 q3 q4 q5 f0 f1 f2 f3 f4 f5) := by
  unfold pX3_readInner at h
  refine a_iload_n C0 dX3_readInner_0 rfl 2 rfl ?_
  refine a_bipush C0 (6 : Int32) dX3_readInner_1 (by decide) ?_
  refine a_icmp_lt C0 16 dX3_readInner_3 (by decide) (fun c_31 => ?_) (fun c_31 => ?_)
  · have h := it_ c_31 h
    exact bwX3_readInner_16 C0 N rp a1 a2 f1 f2 hF hL hrp f0 f3 f4 f5 h
  · have h := ie_ c_31 h
    refine a_aload_n C0 dX3_readInner_6 rfl 0 rfl ?_
    refine a_get C0 inX3_readInner_X3 0 rfl rfl 1 (by decide) lkX3_readInner_15 (fun _ h9 => h9) (.ref q3) rfl dX3_readInner_7 ?_
    refine a_bipush C0 (6 : Int32) dX3_readInner_10 (by decide) ?_
    refine a_iload_n C0 dX3_readInner_12 rfl 1 rfl ?_
    obtain ⟨f3_32, h_33, h⟩ := bd1_e h
    refine a_callVv C0 (wdX3_1 cA q0 q1 q2 q3 q4 q5 f0 f1 f2 f3_32 f4 f5) (As := [.int (6 : Int32), .int a1]) (rest := []) (ctX0_fail l D cA q3 q4 (6 : Int32) a1 f3 h_33) (cwV 2 C0.1.2.2.2.2 gX3_readInner_X0_fail rfl rfl rfl hdX0_fail ⟨by dsimp only; omega, by dsimp only; omega⟩) [3] [0, 1, 2, 4, 5] [0, 1, 2, 5, 3, 4] rfl rfl rfl rfl (by decide) rfl rfl rfl rfl rfl rfl (Nat.le_of_ble_eq_true rfl) dX3_readInner_13 ⟨Nat.zero_le _, Nat.zero_le _⟩ ?_
    exact bwX3_readInner_16 C0 N rp a1 a2 f1 f2 hF hL hrp f0 f3_32 f4 f5 h
set_option maxRecDepth 100000 in
theorem ctX3_readInner (l : Launch) (D : va_G) (cA : ClassId) (q0 q1 q2 q3 q4 q5 : Nat) (F Lc : Nat) (hF : 5 ≤ F) (hL : 112 ≤ Lc) (N : Nat) (rp : Int32 → (Nat → Int32) → (Nat → Int32) → (Nat → Int32) → (Nat → Int32) → (Nat → Int32) → (Nat → Int32) → Option ((Nat → Int32) × (Nat → Int32) × (Nat → Int32) × (Nat → Int32))) (hrp : ∀ (q0 q1 q2 q3 q4 q5 : Nat) (b1 : Int32) (f0 : Nat → Int32) (f1 : Nat → Int32) (f2 : Nat → Int32) (f3 : Nat → Int32) (f4 : Nat → Int32) (f5 : Nat → Int32) {rs : (Nat → Int32) × (Nat → Int32) × (Nat → Int32) × (Nat → Int32)}, rp b1 f0 f1 f2 f3 f4 f5 = some rs → Ctv l yX3_readPack wsX3_readPack { frames := F, cells := 0, slots := 0, locals := Lc } D vwCl [(cA, .int)] [.ref q0, .int b1] (wdX3_1 cA q0 q1 q2 q3 q4 q5 f0 f1 f2 f3 f4 f5) (wdX3_1 cA q0 q1 q2 q3 q4 q5 rs.1 f1 f2 rs.2.1 rs.2.2.1 rs.2.2.2) 0 0) (a1 : Int32) (a2 : Int32) (f0 : Nat → Int32) (f1 : Nat → Int32) (f2 : Nat → Int32) (f3 : Nat → Int32) (f4 : Nat → Int32) (f5 : Nat → Int32) {res : (Nat → Int32) × (Nat → Int32) × (Nat → Int32) × (Nat → Int32)} (h : pX3_readInner N rp a1 a2 f0 f1 f2 f3 f4 f5 = some res) : Ctv l yX3_readInner wsX3_readInner (rmX3_readInner F Lc) D vwCl [(cA, .int)] [.ref q0, .int a1, .int a2] (wdX3_1 cA q0 q1 q2 q3 q4 q5 f0 f1 f2 f3 f4 f5) (wdX3_1 cA q0 q1 q2 q3 q4 q5 res.1 f1 f2 res.2.1 res.2.2.1 res.2.2.2) 0 0 :=
  ct_n (S := Unit) (maxL := 7) (cc := cX3_readInner) (by decide) rfl (Nat.le_of_ble_eq_true rfl) (fun p e s m below meth c _ C0 => bwX3_readInner C0 N rp a1 a2 f0 f1 f2 f3 f4 f5 hF hL hrp h)
/-! PackDrawer$PlainReader.readItem -/
theorem hdX3_giveAgain : yX3_giveAgain.cls = RX3 ∧ yX3_giveAgain.cls ≠ "java/lang/invoke/MethodHandle" ∧ yX3_giveAgain.cls ≠ "java/lang/invoke/VarHandle" ∧ (parseMethodDescriptor yX3_giveAgain.desc).map (fun d => d.parameters.length) = some 3 := by decide +kernel
theorem hdX3_readEnd : yX3_readEnd.cls = RX3 ∧ yX3_readEnd.cls ≠ "java/lang/invoke/MethodHandle" ∧ yX3_readEnd.cls ≠ "java/lang/invoke/VarHandle" ∧ (parseMethodDescriptor yX3_readEnd.desc).map (fun d => d.parameters.length) = some 4 := by decide +kernel
theorem hdX3_readCopy : yX3_readCopy.cls = RX3 ∧ yX3_readCopy.cls ≠ "java/lang/invoke/MethodHandle" ∧ yX3_readCopy.cls ≠ "java/lang/invoke/VarHandle" ∧ (parseMethodDescriptor yX3_readCopy.desc).map (fun d => d.parameters.length) = some 4 := by decide +kernel
theorem hdX3_readInner : yX3_readInner.cls = RX3 ∧ yX3_readInner.cls ≠ "java/lang/invoke/MethodHandle" ∧ yX3_readInner.cls ≠ "java/lang/invoke/VarHandle" ∧ (parseMethodDescriptor yX3_readInner.desc).map (fun d => d.parameters.length) = some 2 := by decide +kernel
theorem hdX3_readWide : yX3_readWide.cls = RX3 ∧ yX3_readWide.cls ≠ "java/lang/invoke/MethodHandle" ∧ yX3_readWide.cls ≠ "java/lang/invoke/VarHandle" ∧ (parseMethodDescriptor yX3_readWide.desc).map (fun d => d.parameters.length) = some 2 := by decide +kernel
theorem hdX3_beginItem : yX3_beginItem.cls = RX3 ∧ yX3_beginItem.cls ≠ "java/lang/invoke/MethodHandle" ∧ yX3_beginItem.cls ≠ "java/lang/invoke/VarHandle" ∧ (parseMethodDescriptor yX3_beginItem.desc).map (fun d => d.parameters.length) = some 1 := by decide +kernel
abbrev rmX3_readItem (F Lc : Nat) : Room := { frames := F + 2, cells := 0, slots := 0, locals := Lc + 50 }
theorem lkX3_readItem_15 : Cond.fieldLink RX3 15 RX3 (TX3 1).2.1 (TX3 1).2.2.1 ∈ wsX3_readItem := by decide +kernel
theorem inX3_readItem_X3 : ∀ w ∈ u_ws RX3 TX3 6, w ∈ wsX3_readItem := by decide +kernel
theorem lkX3_readItem_30 : Cond.fieldLink RX3 30 RX3 (TX3 5).2.1 (TX3 5).2.2.1 ∈ wsX3_readItem := by decide +kernel
theorem lkX3_readItem_25 : Cond.fieldLink RX3 25 RX3 (TX3 2).2.1 (TX3 2).2.2.1 ∈ wsX3_readItem := by decide +kernel
theorem nmX3_readItem_70 : (RX3, 70, yX6_sortOf, RX6) ∈ nest_M := by decide +kernel
theorem niX3_readItem_X6 : Cond.initialized RX6 ∈ wsX3_readItem := by decide +kernel
theorem nsX3_readItem_X6_sortOf : Cond.static yX6_sortOf ∈ wsX3_readItem := by decide +kernel
def bFX3_readItem_175 (N : Nat) (rp : Int32 → (Nat → Int32) → (Nat → Int32) → (Nat → Int32) → (Nat → Int32) → (Nat → Int32) → (Nat → Int32) → Option ((Nat → Int32) × (Nat → Int32) × (Nat → Int32) × (Nat → Int32))) (a1 : Int32) (a2 : Int32) (f1 : Nat → Int32) (f2 : Nat → Int32) (rc175 : Int32 → Int32 → Int32 → (Nat → Int32) → (Nat → Int32) → (Nat → Int32) → (Nat → Int32) → Option (Int32 × (Nat → Int32) × (Nat → Int32) × (Nat → Int32) × (Nat → Int32))) (v3 : Int32) (v6 : Int32) (v7 : Int32) (f0 : Nat → Int32) (f3 : Nat → Int32) (f4 : Nat → Int32) (f5 : Nat → Int32) : Option (Int32 × (Nat → Int32) × (Nat → Int32) × (Nat → Int32) × (Nat → Int32)) := if v7 < v3 then bd1 (pX0_failed f3) (fun r_2 => if r_2 = 0 then some ((1 : Int32), f0, f3, f4, f5) else some ((0 : Int32), f0, f3, f4, f5)) else bd3 (pX3_giveAgain N v7 v6 a1 f0 f1 f2 f3 f4 f5) (fun f3_5 f4_6 f5_7 => lt_ ((v7 + (-1 : Int32))) (fun x_9 => rc175 v3 v6 x_9 f0 f3_5 f4_6 f5_7))
def bfX3_readItem_175 (N : Nat) (rp : Int32 → (Nat → Int32) → (Nat → Int32) → (Nat → Int32) → (Nat → Int32) → (Nat → Int32) → (Nat → Int32) → Option ((Nat → Int32) × (Nat → Int32) × (Nat → Int32) × (Nat → Int32))) (a1 : Int32) (a2 : Int32) (f1 : Nat → Int32) (f2 : Nat → Int32) : Nat → Int32 → Int32 → Int32 → (Nat → Int32) → (Nat → Int32) → (Nat → Int32) → (Nat → Int32) → Option (Int32 × (Nat → Int32) × (Nat → Int32) × (Nat → Int32) × (Nat → Int32))
  | 0 => fun _ _ _ _ _ _ _ => none
  | n + 1 => bFX3_readItem_175 N rp a1 a2 f1 f2  (bfX3_readItem_175 N rp a1 a2 f1 f2  n)
def bfX3_readItem_169 (N : Nat) (rp : Int32 → (Nat → Int32) → (Nat → Int32) → (Nat → Int32) → (Nat → Int32) → (Nat → Int32) → (Nat → Int32) → Option ((Nat → Int32) × (Nat → Int32) × (Nat → Int32) × (Nat → Int32))) (a1 : Int32) (a2 : Int32) (f1 : Nat → Int32) (f2 : Nat → Int32) (v3 : Int32) (v5 : Int32) (v6 : Int32) (f0 : Nat → Int32) (f3 : Nat → Int32) (f4 : Nat → Int32) (f5 : Nat → Int32) : Option (Int32 × (Nat → Int32) × (Nat → Int32) × (Nat → Int32) × (Nat → Int32)) := lt_ ((v5 - (1 : Int32))) (fun x_10 => bfX3_readItem_175 N rp a1 a2 f1 f2 N v3 v6 x_10 f0 f3 f4 f5)
def bfX3_readItem_45 (N : Nat) (rp : Int32 → (Nat → Int32) → (Nat → Int32) → (Nat → Int32) → (Nat → Int32) → (Nat → Int32) → (Nat → Int32) → Option ((Nat → Int32) × (Nat → Int32) × (Nat → Int32) × (Nat → Int32))) (a1 : Int32) (a2 : Int32) (f1 : Nat → Int32) (f2 : Nat → Int32) (v3 : Int32) (v4 : Int32) (f0 : Nat → Int32) (f3 : Nat → Int32) (f4 : Nat → Int32) (f5 : Nat → Int32) : Option (Int32 × (Nat → Int32) × (Nat → Int32) × (Nat → Int32) × (Nat → Int32)) := bd1 (pX0_failed f3) (fun r_11 => if r_11 = 0 then lt_ (((f0 5) - (1 : Int32))) (fun x_14 => bd1 (pX4_top f4) (fun r_15 => bd1 (pX6_sortOf v4) (fun r_17 => if r_17 = (0 : Int32) then bd2 (pX3_readEnd N v3 x_14 a1 a2 f0 f1 f2 f3 f4 f5) (fun f0_20 f3_21 => some ((0 : Int32), f0_20, f3_21, f4, f5)) else if r_17 = (2 : Int32) then bd4 (pX3_readCopy N v4 x_14 a1 a2 f0 f1 f2 f3 f4 f5) (fun f0_24 f3_25 f4_26 f5_27 => bfX3_readItem_169 N rp a1 a2 f1 f2 v3 x_14 r_15 f0_24 f3_25 f4_26 f5_27) else if r_17 = (4 : Int32) then bd4 (pX3_readInner N rp x_14 a1 f0 f1 f2 f3 f4 f5) (fun f0_30 f3_31 f4_32 f5_33 => bfX3_readItem_169 N rp a1 a2 f1 f2 v3 x_14 r_15 f0_30 f3_31 f4_32 f5_33) else if r_17 = (5 : Int32) then bd4 (pX3_readWide N x_14 a1 f0 f1 f2 f3 f4 f5) (fun f0_36 f3_37 f4_38 f5_39 => bfX3_readItem_169 N rp a1 a2 f1 f2 v3 x_14 r_15 f0_36 f3_37 f4_38 f5_39) else bd4 (pX3_readRaw N v4 x_14 a1 f0 f1 f2 f3 f4 f5) (fun f0_53 f3_54 f4_55 f5_56 => bfX3_readItem_169 N rp a1 a2 f1 f2 v3 x_14 r_15 f0_53 f3_54 f4_55 f5_56)))) else some ((0 : Int32), f0, f3, f4, f5))
def bFX3_readItem_15 (N : Nat) (rp : Int32 → (Nat → Int32) → (Nat → Int32) → (Nat → Int32) → (Nat → Int32) → (Nat → Int32) → (Nat → Int32) → Option ((Nat → Int32) × (Nat → Int32) × (Nat → Int32) × (Nat → Int32))) (a1 : Int32) (a2 : Int32) (f1 : Nat → Int32) (f2 : Nat → Int32) (rc15 : Int32 → Int32 → Int32 → (Nat → Int32) → (Nat → Int32) → (Nat → Int32) → (Nat → Int32) → Option (Int32 × (Nat → Int32) × (Nat → Int32) × (Nat → Int32) × (Nat → Int32))) (v3 : Int32) (v4 : Int32) (v5 : Int32) (f0 : Nat → Int32) (f3 : Nat → Int32) (f4 : Nat → Int32) (f5 : Nat → Int32) : Option (Int32 × (Nat → Int32) × (Nat → Int32) × (Nat → Int32) × (Nat → Int32)) := if (160 : Int32) ≤ v5 then bfX3_readItem_45 N rp a1 a2 f1 f2 v3 v4 f0 f3 f4 f5 else bd1 (pX6_sortOf v4) (fun r_59 => if r_59 = (3 : Int32) then bd3 (pX3_beginItem a1 f0 f1 f2 f3) (fun r_62 f0_63 f3_64 => lt_ ((v5 + (1 : Int32))) (fun x_66 => rc15 v3 r_62 x_66 f0_63 f3_64 f4 f5)) else bfX3_readItem_45 N rp a1 a2 f1 f2 v3 v4 f0 f3 f4 f5)
def bfX3_readItem_15 (N : Nat) (rp : Int32 → (Nat → Int32) → (Nat → Int32) → (Nat → Int32) → (Nat → Int32) → (Nat → Int32) → (Nat → Int32) → Option ((Nat → Int32) × (Nat → Int32) × (Nat → Int32) × (Nat → Int32))) (a1 : Int32) (a2 : Int32) (f1 : Nat → Int32) (f2 : Nat → Int32) : Nat → Int32 → Int32 → Int32 → (Nat → Int32) → (Nat → Int32) → (Nat → Int32) → (Nat → Int32) → Option (Int32 × (Nat → Int32) × (Nat → Int32) × (Nat → Int32) × (Nat → Int32))
  | 0 => fun _ _ _ _ _ _ _ => none
  | n + 1 => bFX3_readItem_15 N rp a1 a2 f1 f2  (bfX3_readItem_15 N rp a1 a2 f1 f2  n)
def pX3_readItem (N : Nat) (rp : Int32 → (Nat → Int32) → (Nat → Int32) → (Nat → Int32) → (Nat → Int32) → (Nat → Int32) → (Nat → Int32) → Option ((Nat → Int32) × (Nat → Int32) × (Nat → Int32) × (Nat → Int32))) (a1 : Int32) (a2 : Int32) (f0 : Nat → Int32) (f1 : Nat → Int32) (f2 : Nat → Int32) (f3 : Nat → Int32) (f4 : Nat → Int32) (f5 : Nat → Int32) : Option (Int32 × (Nat → Int32) × (Nat → Int32) × (Nat → Int32) × (Nat → Int32)) := lt_ ((f0 5)) (fun x_67 => bd3 (pX3_beginItem a1 f0 f1 f2 f3) (fun r_68 f0_69 f3_70 => bfX3_readItem_15 N rp a1 a2 f1 f2 N x_67 r_68 (0 : Int32) f0_69 f3_70 f4 f5))
set_option maxHeartbeats 4000000 in
set_option maxRecDepth 100000 in
theorem bwX3_readItem_175 {p : Program} {l : Launch} {e : Env} {s : State} {m : MethodId} {args : Array Value} {below : List Frame} {meth : Method} {c : Code} {D : va_G} {A : Nat → Prop} {cA : ClassId} {q0 q1 q2 q3 q4 q5 : Nat} {res : Int32 × (Nat → Int32) × (Nat → Int32) × (Nat → Int32) × (Nat → Int32)} {F Lc : Nat} (C0 : cx p s m args meth c cX3_readItem 8 RX3 wsX3_readItem (some .boolean) D vwCl [(cA, .int)] A) (N : Nat) (rp : Int32 → (Nat → Int32) → (Nat → Int32) → (Nat → Int32) → (Nat → Int32) → (Nat → Int32) → (Nat → Int32) → Option ((Nat → Int32) × (Nat → Int32) × (Nat → Int32) × (Nat → Int32))) (a1 : Int32) (a2 : Int32) (f1 : Nat → Int32) (f2 : Nat → Int32) (hF : 5 ≤ F) (hL : 112 ≤ Lc) (hrp : ∀ (q0 q1 q2 q3 q4 q5 : Nat) (b1 : Int32) (f0 : Nat → Int32) (f1 : Nat → Int32) (f2 : Nat → Int32) (f3 : Nat → Int32) (f4 : Nat → Int32) (f5 : Nat → Int32) {rs : (Nat → Int32) × (Nat → Int32) × (Nat → Int32) × (Nat → Int32)}, rp b1 f0 f1 f2 f3 f4 f5 = some rs → Ctv l yX3_readPack wsX3_readPack { frames := F, cells := 0, slots := 0, locals := Lc } D vwCl [(cA, .int)] [.ref q0, .int b1] (wdX3_1 cA q0 q1 q2 q3 q4 q5 f0 f1 f2 f3 f4 f5) (wdX3_1 cA q0 q1 q2 q3 q4 q5 rs.1 f1 f2 rs.2.1 rs.2.2.1 rs.2.2.2) 0 0) : ∀ (n : Nat) (v3 : Int32) (v6 : Int32) (v7 : Int32) (f0 : Nat → Int32) (f3 : Nat → Int32) (f4 : Nat → Int32) (f5 : Nat → Int32), bfX3_readItem_175 N rp a1 a2 f1 f2  n v3 v6 v7 f0 f3 f4 f5 = some res → At_ p l e (rmX3_readItem F Lc) s m args below meth c D vwCl A 8 0 0 (Qi_ below args s D vwCl A (wdX3_1 cA q0 q1 q2 q3 q4 q5 res.2.1 f1 f2 res.2.2.1 res.2.2.2.1 res.2.2.2.2) res.1) 175 [(0, .ref q0), (1, .int a1), (2, .int a2), (3, .int v3), (6, .int v6), (7, .int v7)] [] (wdX3_1 cA q0 q1 q2 q3 q4 q5 f0 f1 f2 f3 f4 f5) := by
  intro n
  induction n with
  | zero => intro v3 v6 v7 f0 f3 f4 f5 h; cases h
  | succ n hrc175 =>
    intro v3 v6 v7 f0 f3 f4 f5 h
    replace h : bFX3_readItem_175 N rp a1 a2 f1 f2  (bfX3_readItem_175 N rp a1 a2 f1 f2  n) v3 v6 v7 f0 f3 f4 f5 = some res := h
    generalize bfX3_readItem_175 N rp a1 a2 f1 f2  n = rc175 at h hrc175
    unfold bFX3_readItem_175 at h
    refine a_iload C0 dX3_readItem_175 5 rfl ?_
    refine a_iload_n C0 dX3_readItem_177 rfl 3 rfl ?_
    refine a_icmp_lt C0 196 dX3_readItem_178 (by decide) (fun c_1 => ?_) (fun c_1 => ?_)
    · have h := it_ c_1 h
      refine a_aload_n C0 dX3_readItem_196 rfl 0 rfl ?_
      refine a_get C0 inX3_readItem_X3 0 rfl rfl 1 (by decide) lkX3_readItem_15 (fun _ h9 => h9) (.ref q3) rfl dX3_readItem_197 ?_
      obtain ⟨r_2, h_3, h⟩ := bd1_e h
      refine a_callVi C0 (wdX3_1 cA q0 q1 q2 q3 q4 q5 f0 f1 f2 f3 f4 f5) (As := []) (rest := []) (ctX0_failed l D cA q3 q4 f3 h_3) (cwV 0 C0.1.2.2.2.2 gX3_readItem_X0_failed rfl rfl rfl hdX0_failed ⟨by dsimp only; omega, by dsimp only; omega⟩) [3] [0, 1, 2, 4, 5] [0, 1, 2, 5, 3, 4] rfl rfl rfl rfl (by decide) rfl rfl rfl rfl rfl rfl (Nat.le_of_ble_eq_true rfl) dX3_readItem_200 ⟨Nat.zero_le _, Nat.zero_le _⟩ ?_
      refine a_if_ne C0 210 dX3_readItem_203 (by decide) (fun c_4 => ?_) (fun c_4 => ?_)
      · have h := ie_ c_4 h
        refine a_iconst C0 (0 : Int32) dX3_readItem_210 (by decide) ?_
        obtain rfl := Option.some.inj h
        exact a_zret C0 dX3_readItem_211 rfl rfl rfl
      · have h := it_ c_4 h
        refine a_iconst C0 (1 : Int32) dX3_readItem_206 (by decide) ?_
        refine a_goto C0 211 dX3_readItem_207 (by decide) ?_
        obtain rfl := Option.some.inj h
        exact a_zret C0 dX3_readItem_211 rfl rfl rfl
    · have h := ie_ c_1 h
      refine a_aload_n C0 dX3_readItem_181 rfl 0 rfl ?_
      refine a_iload C0 dX3_readItem_182 5 rfl ?_
      refine a_iload C0 dX3_readItem_184 4 rfl ?_
      refine a_iload_n C0 dX3_readItem_186 rfl 1 rfl ?_
      obtain ⟨f3_5, f4_6, f5_7, h_8, h⟩ := bd3_e h
      refine a_callVv C0 (wdX3_1 cA q0 q1 q2 q3 q4 q5 f0 f1 f2 f3_5 f4_6 f5_7) (As := [.int v7, .int v6, .int a1]) (rest := []) (ctX3_giveAgain l D cA q0 q1 q2 q3 q4 q5 N v7 v6 a1 f0 f1 f2 f3 f4 f5 h_8) (cwV 3 C0.1.2.2.2.2 gX3_readItem_X3_giveAgain rfl rfl rfl hdX3_giveAgain ⟨by dsimp only; omega, by dsimp only; omega⟩) [0, 1, 2, 3, 4, 5] [] [0, 1, 2, 3, 4, 5] rfl rfl rfl rfl (by decide) rfl rfl rfl rfl rfl rfl (Nat.le_of_ble_eq_true rfl) dX3_readItem_187 ⟨Nat.zero_le _, Nat.zero_le _⟩ ?_
      obtain ⟨x_9, ex_9, h⟩ := lt_e h
      refine a_iinc C0 x_9 [(7, .int x_9), (0, .ref q0), (1, .int a1), (2, .int a2), (3, .int v3), (6, .int v6)] dX3_readItem_190 5 rfl (by subst ex_9; rfl) (by decide) rfl ?_
      refine a_goto C0 175 dX3_readItem_193 (by decide) ?_
      refine a_lv [1, 2, 3, 4, 5, 0] (lv' := [(0, .ref q0), (1, .int a1), (2, .int a2), (3, .int v3), (6, .int v6), (7, .int x_9)]) rfl ?_
      exact hrc175 v3 v6 x_9 f0 f3_5 f4_6 f5_7 h
set_option maxHeartbeats 4000000 in
set_option maxRecDepth 100000 in
theorem bwX3_readItem_169 {p : Program} {l : Launch} {e : Env} {s : State} {m : MethodId} {args : Array Value} {below : List Frame} {meth : Method} {c : Code} {D : va_G} {A : Nat → Prop} {cA : ClassId} {q0 q1 q2 q3 q4 q5 : Nat} {res : Int32 × (Nat → Int32) × (Nat → Int32) × (Nat → Int32) × (Nat → Int32)} {F Lc : Nat} (C0 : cx p s m args meth c cX3_readItem 8 RX3 wsX3_readItem (some .boolean) D vwCl [(cA, .int)] A) (N : Nat) (rp : Int32 → (Nat → Int32) → (Nat → Int32) → (Nat → Int32) → (Nat → Int32) → (Nat → Int32) → (Nat → Int32) → Option ((Nat → Int32) × (Nat → Int32) × (Nat → Int32) × (Nat → Int32))) (a1 : Int32) (a2 : Int32) (f1 : Nat → Int32) (f2 : Nat → Int32) (hF : 5 ≤ F) (hL : 112 ≤ Lc) (hrp : ∀ (q0 q1 q2 q3 q4 q5 : Nat) (b1 : Int32) (f0 : Nat → Int32) (f1 : Nat → Int32) (f2 : Nat → Int32) (f3 : Nat → Int32) (f4 : Nat → Int32) (f5 : Nat → Int32) {rs : (Nat → Int32) × (Nat → Int32) × (Nat → Int32) × (Nat → Int32)}, rp b1 f0 f1 f2 f3 f4 f5 = some rs → Ctv l yX3_readPack wsX3_readPack { frames := F, cells := 0, slots := 0, locals := Lc } D vwCl [(cA, .int)] [.ref q0, .int b1] (wdX3_1 cA q0 q1 q2 q3 q4 q5 f0 f1 f2 f3 f4 f5) (wdX3_1 cA q0 q1 q2 q3 q4 q5 rs.1 f1 f2 rs.2.1 rs.2.2.1 rs.2.2.2) 0 0) (v3 : Int32) (v5 : Int32) (v6 : Int32) (f0 : Nat → Int32) (f3 : Nat → Int32) (f4 : Nat → Int32) (f5 : Nat → Int32) (h : bfX3_readItem_169 N rp a1 a2 f1 f2  v3 v5 v6 f0 f3 f4 f5 = some res) : At_ p l e (rmX3_readItem F Lc) s m args below meth c D vwCl A 8 0 0 (Qi_ below args s D vwCl A (wdX3_1 cA q0 q1 q2 q3 q4 q5 res.2.1 f1 f2 res.2.2.1 res.2.2.2.1 res.2.2.2.2) res.1) 169 [(0, .ref q0), (1, .int a1), (2, .int a2), (3, .int v3), (5, .int v5), (6, .int v6)] [] (wdX3_1 cA q0 q1 q2 q3 q4 q5 f0 f1 f2 f3 f4 f5) := by
  unfold bfX3_readItem_169 at h
  refine a_iload C0 dX3_readItem_169 4 rfl ?_
  refine a_iconst C0 (1 : Int32) dX3_readItem_171 (by decide) ?_
  refine a_isub C0 dX3_readItem_172 ?_
  obtain ⟨x_10, ex_10, h⟩ := lt_e h
  refine a_topi ex_10 ?_
  refine a_istore C0 [(7, .int x_10), (0, .ref q0), (1, .int a1), (2, .int a2), (3, .int v3), (5, .int v5), (6, .int v6)] dX3_readItem_173 (by decide) rfl ?_
  refine a_lv [1, 2, 3, 4, 6, 0] (lv' := [(0, .ref q0), (1, .int a1), (2, .int a2), (3, .int v3), (6, .int v6), (7, .int x_10)]) rfl ?_
  exact bwX3_readItem_175 C0 N rp a1 a2 f1 f2 hF hL hrp N v3 v6 x_10 f0 f3 f4 f5 h
set_option maxHeartbeats 4000000 in
set_option maxRecDepth 100000 in
theorem bwX3_readItem_45 {p : Program} {l : Launch} {e : Env} {s : State} {m : MethodId} {args : Array Value} {below : List Frame} {meth : Method} {c : Code} {D : va_G} {A : Nat → Prop} {cA : ClassId} {q0 q1 q2 q3 q4 q5 : Nat} {res : Int32 × (Nat → Int32) × (Nat → Int32) × (Nat → Int32) × (Nat → Int32)} {F Lc : Nat} (C0 : cx p s m args meth c cX3_readItem 8 RX3 wsX3_readItem (some .boolean) D vwCl [(cA, .int)] A) (N : Nat) (rp : Int32 → (Nat → Int32) → (Nat → Int32) → (Nat → Int32) → (Nat → Int32) → (Nat → Int32) → (Nat → Int32) → Option ((Nat → Int32) × (Nat → Int32) × (Nat → Int32) × (Nat → Int32))) (a1 : Int32) (a2 : Int32) (f1 : Nat → Int32) (f2 : Nat → Int32) (hF : 5 ≤ F) (hL : 112 ≤ Lc) (hrp : ∀ (q0 q1 q2 q3 q4 q5 : Nat) (b1 : Int32) (f0 : Nat → Int32) (f1 : Nat → Int32) (f2 : Nat → Int32) (f3 : Nat → Int32) (f4 : Nat → Int32) (f5 : Nat → Int32) {rs : (Nat → Int32) × (Nat → Int32) × (Nat → Int32) × (Nat → Int32)}, rp b1 f0 f1 f2 f3 f4 f5 = some rs → Ctv l yX3_readPack wsX3_readPack { frames := F, cells := 0, slots := 0, locals := Lc } D vwCl [(cA, .int)] [.ref q0, .int b1] (wdX3_1 cA q0 q1 q2 q3 q4 q5 f0 f1 f2 f3 f4 f5) (wdX3_1 cA q0 q1 q2 q3 q4 q5 rs.1 f1 f2 rs.2.1 rs.2.2.1 rs.2.2.2) 0 0) (v3 : Int32) (v4 : Int32) (f0 : Nat → Int32) (f3 : Nat → Int32) (f4 : Nat → Int32) (f5 : Nat → Int32) (h : bfX3_readItem_45 N rp a1 a2 f1 f2  v3 v4 f0 f3 f4 f5 = some res) : At_ p l e (rmX3_readItem F Lc) s m args below meth c D vwCl A 8 0 0 (Qi_ below args s D vwCl A (wdX3_1 cA q0 q1 q2 q3 q4 q5 res.2.1 f1 f2 res.2.2.1 res.2.2.2.1 res.2.2.2.2) res.1) 45 [(0, .ref q0), (1, .int a1), (2, .int a2), (3, .int v3), (4, .int v4)] [] (wdX3_1 cA q0 q1 q2 q3 q4 q5 f0 f1 f2 f3 f4 f5) := by
  unfold bfX3_readItem_45 at h
  refine a_aload_n C0 dX3_readItem_45 rfl 0 rfl ?_
  refine a_get C0 inX3_readItem_X3 0 rfl rfl 1 (by decide) lkX3_readItem_15 (fun _ h9 => h9) (.ref q3) rfl dX3_readItem_46 ?_
  obtain ⟨r_11, h_12, h⟩ := bd1_e h
  refine a_callVi C0 (wdX3_1 cA q0 q1 q2 q3 q4 q5 f0 f1 f2 f3 f4 f5) (As := []) (rest := []) (ctX0_failed l D cA q3 q4 f3 h_12) (cwV 0 C0.1.2.2.2.2 gX3_readItem_X0_failed rfl rfl rfl hdX0_failed ⟨by dsimp only; omega, by dsimp only; omega⟩) [3] [0, 1, 2, 4, 5] [0, 1, 2, 5, 3, 4] rfl rfl rfl rfl (by decide) rfl rfl rfl rfl rfl rfl (Nat.le_of_ble_eq_true rfl) dX3_readItem_49 ⟨Nat.zero_le _, Nat.zero_le _⟩ ?_
  refine a_if_eq C0 57 dX3_readItem_52 (by decide) (fun c_13 => ?_) (fun c_13 => ?_)
  · have h := it_ c_13 h
    refine a_aload_n C0 dX3_readItem_57 rfl 0 rfl ?_
    refine a_get C0 inX3_readItem_X3 0 rfl rfl 5 (by decide) lkX3_readItem_30 (fun _ h9 => h9) (.int (f0 5)) rfl dX3_readItem_58 ?_
    refine a_iconst C0 (1 : Int32) dX3_readItem_61 (by decide) ?_
    refine a_isub C0 dX3_readItem_62 ?_
    obtain ⟨x_14, ex_14, h⟩ := lt_e h
    refine a_topi ex_14 ?_
    refine a_istore C0 [(5, .int x_14), (0, .ref q0), (1, .int a1), (2, .int a2), (3, .int v3), (4, .int v4)] dX3_readItem_63 (by decide) rfl ?_
    refine a_aload_n C0 dX3_readItem_65 rfl 1 rfl ?_
    refine a_get C0 inX3_readItem_X3 0 rfl rfl 2 (by decide) lkX3_readItem_25 (fun _ h9 => h9) (.ref q4) rfl dX3_readItem_66 ?_
    obtain ⟨r_15, h_16, h⟩ := bd1_e h
    refine a_callVi C0 (wdX3_1 cA q0 q1 q2 q3 q4 q5 f0 f1 f2 f3 f4 f5) (As := []) (rest := []) (ctX4_top l D cA q4 q5 f4 h_16) (cwV 0 C0.1.2.2.2.2 gX3_readItem_X4_top rfl rfl rfl hdX4_top ⟨by dsimp only; omega, by dsimp only; omega⟩) [4] [0, 1, 2, 3, 5] [0, 1, 2, 3, 5, 4] rfl rfl rfl rfl (by decide) rfl rfl rfl rfl rfl rfl (Nat.le_of_ble_eq_true rfl) dX3_readItem_69 ⟨Nat.zero_le _, Nat.zero_le _⟩ ?_
    refine a_istore C0 [(6, .int r_15), (5, .int x_14), (0, .ref q0), (1, .int a1), (2, .int a2), (3, .int v3), (4, .int v4)] dX3_readItem_72 (by decide) rfl ?_
    refine a_iload C0 dX3_readItem_74 6 rfl ?_
    obtain ⟨r_17, h_18, h⟩ := bd1_e h
    refine a_callSNi C0 (wdX3_1 cA q0 q1 q2 q3 q4 q5 f0 f1 f2 f3 f4 f5) (As := [.int v4]) (rest := []) (ctX6_sortOf l D cA v4 h_18) ⟨va_cnB 1 C0.1.2.2.2.2 gX3_readItem_X6_sortOf_n70 rfl rfl rfl (C0.2.2.2.1.2.2 (RX3, 70, yX6_sortOf, RX6) nmX3_readItem_70) (C0.1.2.2.2.2 (.initialized RX6) niX3_readItem_X6) hdX6_sortOf.2 ⟨by dsimp only; omega, by dsimp only; omega⟩, (C0.1.2.2.2.2 (.static yX6_sortOf) nsX3_readItem_X6_sortOf), trivial⟩ [] [0, 1, 2, 3, 4, 5] [0, 1, 2, 3, 4, 5] rfl rfl rfl rfl (by decide) rfl rfl rfl rfl (Nat.le_of_ble_eq_true rfl) dX3_readItem_76 ⟨Nat.zero_le _, Nat.zero_le _⟩ ?_
    by_cases c_19 : r_17 = (0 : Int32)
    · have h := it_ c_19 h
      refine a_tableIn C0 116 dX3_readItem_79 (by rw [c_19]; decide) (by rw [c_19]; decide) (by rw [c_19]; rfl) (by decide) ?_
      refine a_aload_n C0 dX3_readItem_116 rfl 2 rfl ?_
      refine a_iload_n C0 dX3_readItem_117 rfl 5 rfl ?_
      refine a_iload C0 dX3_readItem_118 1 rfl ?_
      refine a_iload_n C0 dX3_readItem_120 rfl 3 rfl ?_
      refine a_iload_n C0 dX3_readItem_121 rfl 4 rfl ?_
      obtain ⟨f0_20, f3_21, h_22, h⟩ := bd2_e h
      refine a_callVv C0 (wdX3_1 cA q0 q1 q2 q3 q4 q5 f0_20 f1 f2 f3_21 f4 f5) (As := [.int v3, .int x_14, .int a1, .int a2]) (rest := []) (ctX3_readEnd l D cA q0 q1 q2 q3 q4 q5 N v3 x_14 a1 a2 f0 f1 f2 f3 f4 f5 h_22) (cwV 4 C0.1.2.2.2.2 gX3_readItem_X3_readEnd rfl rfl rfl hdX3_readEnd ⟨by dsimp only; omega, by dsimp only; omega⟩) [0, 1, 2, 3, 4, 5] [] [0, 1, 2, 3, 4, 5] rfl rfl rfl rfl (by decide) rfl rfl rfl rfl rfl rfl (Nat.le_of_ble_eq_true rfl) dX3_readItem_122 ⟨Nat.zero_le _, Nat.zero_le _⟩ ?_
      refine a_iconst C0 (0 : Int32) dX3_readItem_125 (by decide) ?_
      obtain rfl := Option.some.inj h
      exact a_zret C0 dX3_readItem_126 rfl rfl rfl
    · have h := ie_ c_19 h
      by_cases c_23 : r_17 = (2 : Int32)
      · have h := it_ c_23 h
        refine a_tableIn C0 127 dX3_readItem_79 (by rw [c_23]; decide) (by rw [c_23]; decide) (by rw [c_23]; rfl) (by decide) ?_
        refine a_aload_n C0 dX3_readItem_127 rfl 2 rfl ?_
        refine a_iload C0 dX3_readItem_128 6 rfl ?_
        refine a_iload C0 dX3_readItem_130 1 rfl ?_
        refine a_iload_n C0 dX3_readItem_132 rfl 3 rfl ?_
        refine a_iload_n C0 dX3_readItem_133 rfl 4 rfl ?_
        obtain ⟨f0_24, f3_25, f4_26, f5_27, h_28, h⟩ := bd4_e h
        refine a_callVv C0 (wdX3_1 cA q0 q1 q2 q3 q4 q5 f0_24 f1 f2 f3_25 f4_26 f5_27) (As := [.int v4, .int x_14, .int a1, .int a2]) (rest := []) (ctX3_readCopy l D cA q0 q1 q2 q3 q4 q5 N v4 x_14 a1 a2 f0 f1 f2 f3 f4 f5 h_28) (cwV 4 C0.1.2.2.2.2 gX3_readItem_X3_readCopy rfl rfl rfl hdX3_readCopy ⟨by dsimp only; omega, by dsimp only; omega⟩) [0, 1, 2, 3, 4, 5] [] [0, 1, 2, 3, 4, 5] rfl rfl rfl rfl (by decide) rfl rfl rfl rfl rfl rfl (Nat.le_of_ble_eq_true rfl) dX3_readItem_134 ⟨Nat.zero_le _, Nat.zero_le _⟩ ?_
        refine a_goto C0 169 dX3_readItem_137 (by decide) ?_
        refine a_lv [2, 3, 4, 5, 1, 0] (lv' := [(0, .ref q0), (1, .int a1), (2, .int a2), (3, .int v3), (5, .int x_14), (6, .int r_15)]) rfl ?_
        exact bwX3_readItem_169 C0 N rp a1 a2 f1 f2 hF hL hrp v3 x_14 r_15 f0_24 f3_25 f4_26 f5_27 h
      · have h := ie_ c_23 h
        by_cases c_29 : r_17 = (4 : Int32)
        · have h := it_ c_29 h
          refine a_tableIn C0 140 dX3_readItem_79 (by rw [c_29]; decide) (by rw [c_29]; decide) (by rw [c_29]; rfl) (by decide) ?_
          refine a_aload_n C0 dX3_readItem_140 rfl 2 rfl ?_
          refine a_iload C0 dX3_readItem_141 1 rfl ?_
          refine a_iload_n C0 dX3_readItem_143 rfl 3 rfl ?_
          obtain ⟨f0_30, f3_31, f4_32, f5_33, h_34, h⟩ := bd4_e h
          refine a_callVv C0 (wdX3_1 cA q0 q1 q2 q3 q4 q5 f0_30 f1 f2 f3_31 f4_32 f5_33) (As := [.int x_14, .int a1]) (rest := []) (ctX3_readInner l D cA q0 q1 q2 q3 q4 q5 F Lc hF hL N rp hrp x_14 a1 f0 f1 f2 f3 f4 f5 h_34) (cwV 2 C0.1.2.2.2.2 gX3_readItem_X3_readInner rfl rfl rfl hdX3_readInner ⟨by dsimp only; omega, by dsimp only; omega⟩) [0, 1, 2, 3, 4, 5] [] [0, 1, 2, 3, 4, 5] rfl rfl rfl rfl (by decide) rfl rfl rfl rfl rfl rfl (Nat.le_of_ble_eq_true rfl) dX3_readItem_144 ⟨Nat.zero_le _, Nat.zero_le _⟩ ?_
          refine a_goto C0 169 dX3_readItem_147 (by decide) ?_
          refine a_lv [2, 3, 4, 5, 1, 0] (lv' := [(0, .ref q0), (1, .int a1), (2, .int a2), (3, .int v3), (5, .int x_14), (6, .int r_15)]) rfl ?_
          exact bwX3_readItem_169 C0 N rp a1 a2 f1 f2 hF hL hrp v3 x_14 r_15 f0_30 f3_31 f4_32 f5_33 h
        · have h := ie_ c_29 h
          by_cases c_35 : r_17 = (5 : Int32)
          · have h := it_ c_35 h
            refine a_tableIn C0 150 dX3_readItem_79 (by rw [c_35]; decide) (by rw [c_35]; decide) (by rw [c_35]; rfl) (by decide) ?_
            refine a_aload_n C0 dX3_readItem_150 rfl 2 rfl ?_
            refine a_iload C0 dX3_readItem_151 1 rfl ?_
            refine a_iload_n C0 dX3_readItem_153 rfl 3 rfl ?_
            obtain ⟨f0_36, f3_37, f4_38, f5_39, h_40, h⟩ := bd4_e h
            refine a_callVv C0 (wdX3_1 cA q0 q1 q2 q3 q4 q5 f0_36 f1 f2 f3_37 f4_38 f5_39) (As := [.int x_14, .int a1]) (rest := []) (ctX3_readWide l D cA q0 q1 q2 q3 q4 q5 N x_14 a1 f0 f1 f2 f3 f4 f5 h_40) (cwV 2 C0.1.2.2.2.2 gX3_readItem_X3_readWide rfl rfl rfl hdX3_readWide ⟨by dsimp only; omega, by dsimp only; omega⟩) [0, 1, 2, 3, 4, 5] [] [0, 1, 2, 3, 4, 5] rfl rfl rfl rfl (by decide) rfl rfl rfl rfl rfl rfl (Nat.le_of_ble_eq_true rfl) dX3_readItem_154 ⟨Nat.zero_le _, Nat.zero_le _⟩ ?_
            refine a_goto C0 169 dX3_readItem_157 (by decide) ?_
            refine a_lv [2, 3, 4, 5, 1, 0] (lv' := [(0, .ref q0), (1, .int a1), (2, .int a2), (3, .int v3), (5, .int x_14), (6, .int r_15)]) rfl ?_
            exact bwX3_readItem_169 C0 N rp a1 a2 f1 f2 hF hL hrp v3 x_14 r_15 f0_36 f3_37 f4_38 f5_39 h
          · have h := ie_ c_35 h
            by_cases c_41 : r_17 = (1 : Int32)
            · refine a_tableIn C0 160 dX3_readItem_79 (by rw [c_41]; decide) (by rw [c_41]; decide) (by rw [c_41]; rfl) (by decide) ?_
              refine a_aload_n C0 dX3_readItem_160 rfl 2 rfl ?_
              refine a_iload C0 dX3_readItem_161 6 rfl ?_
              refine a_iload C0 dX3_readItem_163 1 rfl ?_
              refine a_iload_n C0 dX3_readItem_165 rfl 3 rfl ?_
              obtain ⟨f0_42, f3_43, f4_44, f5_45, h_46, h⟩ := bd4_e h
              refine a_callVv C0 (wdX3_1 cA q0 q1 q2 q3 q4 q5 f0_42 f1 f2 f3_43 f4_44 f5_45) (As := [.int v4, .int x_14, .int a1]) (rest := []) (ctX3_readRaw l D cA q0 q1 q2 q3 q4 q5 N v4 x_14 a1 f0 f1 f2 f3 f4 f5 h_46) (cwV 3 C0.1.2.2.2.2 gX3_readItem_X3_readRaw rfl rfl rfl hdX3_readRaw ⟨by dsimp only; omega, by dsimp only; omega⟩) [0, 1, 2, 3, 4, 5] [] [0, 1, 2, 3, 4, 5] rfl rfl rfl rfl (by decide) rfl rfl rfl rfl rfl rfl (Nat.le_of_ble_eq_true rfl) dX3_readItem_166 ⟨Nat.zero_le _, Nat.zero_le _⟩ ?_
              refine a_lv [2, 3, 4, 5, 1, 0] (lv' := [(0, .ref q0), (1, .int a1), (2, .int a2), (3, .int v3), (5, .int x_14), (6, .int r_15)]) rfl ?_
              exact bwX3_readItem_169 C0 N rp a1 a2 f1 f2 hF hL hrp v3 x_14 r_15 f0_42 f3_43 f4_44 f5_45 h
            by_cases c_47 : r_17 = (3 : Int32)
            · refine a_tableIn C0 160 dX3_readItem_79 (by rw [c_47]; decide) (by rw [c_47]; decide) (by rw [c_47]; rfl) (by decide) ?_
              refine a_aload_n C0 dX3_readItem_160 rfl 2 rfl ?_
              refine a_iload C0 dX3_readItem_161 6 rfl ?_
              refine a_iload C0 dX3_readItem_163 1 rfl ?_
              refine a_iload_n C0 dX3_readItem_165 rfl 3 rfl ?_
              obtain ⟨f0_48, f3_49, f4_50, f5_51, h_52, h⟩ := bd4_e h
              refine a_callVv C0 (wdX3_1 cA q0 q1 q2 q3 q4 q5 f0_48 f1 f2 f3_49 f4_50 f5_51) (As := [.int v4, .int x_14, .int a1]) (rest := []) (ctX3_readRaw l D cA q0 q1 q2 q3 q4 q5 N v4 x_14 a1 f0 f1 f2 f3 f4 f5 h_52) (cwV 3 C0.1.2.2.2.2 gX3_readItem_X3_readRaw rfl rfl rfl hdX3_readRaw ⟨by dsimp only; omega, by dsimp only; omega⟩) [0, 1, 2, 3, 4, 5] [] [0, 1, 2, 3, 4, 5] rfl rfl rfl rfl (by decide) rfl rfl rfl rfl rfl rfl (Nat.le_of_ble_eq_true rfl) dX3_readItem_166 ⟨Nat.zero_le _, Nat.zero_le _⟩ ?_
              refine a_lv [2, 3, 4, 5, 1, 0] (lv' := [(0, .ref q0), (1, .int a1), (2, .int a2), (3, .int v3), (5, .int x_14), (6, .int r_15)]) rfl ?_
              exact bwX3_readItem_169 C0 N rp a1 a2 f1 f2 hF hL hrp v3 x_14 r_15 f0_48 f3_49 f4_50 f5_51 h
            have hsw : r_17.toInt < 0 ∨ 5 < r_17.toInt := by
              have := sw_ne c_19 (k := 0) (by decide)
              have := sw_ne c_41 (k := 1) (by decide)
              have := sw_ne c_23 (k := 2) (by decide)
              have := sw_ne c_47 (k := 3) (by decide)
              have := sw_ne c_29 (k := 4) (by decide)
              have := sw_ne c_35 (k := 5) (by decide)
              omega
            refine a_tableOut C0 160 dX3_readItem_79 hsw (by decide) ?_
            refine a_aload_n C0 dX3_readItem_160 rfl 2 rfl ?_
            refine a_iload C0 dX3_readItem_161 6 rfl ?_
            refine a_iload C0 dX3_readItem_163 1 rfl ?_
            refine a_iload_n C0 dX3_readItem_165 rfl 3 rfl ?_
            obtain ⟨f0_53, f3_54, f4_55, f5_56, h_57, h⟩ := bd4_e h
            refine a_callVv C0 (wdX3_1 cA q0 q1 q2 q3 q4 q5 f0_53 f1 f2 f3_54 f4_55 f5_56) (As := [.int v4, .int x_14, .int a1]) (rest := []) (ctX3_readRaw l D cA q0 q1 q2 q3 q4 q5 N v4 x_14 a1 f0 f1 f2 f3 f4 f5 h_57) (cwV 3 C0.1.2.2.2.2 gX3_readItem_X3_readRaw rfl rfl rfl hdX3_readRaw ⟨by dsimp only; omega, by dsimp only; omega⟩) [0, 1, 2, 3, 4, 5] [] [0, 1, 2, 3, 4, 5] rfl rfl rfl rfl (by decide) rfl rfl rfl rfl rfl rfl (Nat.le_of_ble_eq_true rfl) dX3_readItem_166 ⟨Nat.zero_le _, Nat.zero_le _⟩ ?_
            refine a_lv [2, 3, 4, 5, 1, 0] (lv' := [(0, .ref q0), (1, .int a1), (2, .int a2), (3, .int v3), (5, .int x_14), (6, .int r_15)]) rfl ?_
            exact bwX3_readItem_169 C0 N rp a1 a2 f1 f2 hF hL hrp v3 x_14 r_15 f0_53 f3_54 f4_55 f5_56 h
  · have h := ie_ c_13 h
    refine a_iconst C0 (0 : Int32) dX3_readItem_55 (by decide) ?_
    obtain rfl := Option.some.inj h
    exact a_zret C0 dX3_readItem_56 rfl rfl rfl
set_option maxHeartbeats 4000000 in
set_option maxRecDepth 100000 in
theorem bwX3_readItem_15 {p : Program} {l : Launch} {e : Env} {s : State} {m : MethodId} {args : Array Value} {below : List Frame} {meth : Method} {c : Code} {D : va_G} {A : Nat → Prop} {cA : ClassId} {q0 q1 q2 q3 q4 q5 : Nat} {res : Int32 × (Nat → Int32) × (Nat → Int32) × (Nat → Int32) × (Nat → Int32)} {F Lc : Nat} (C0 : cx p s m args meth c cX3_readItem 8 RX3 wsX3_readItem (some .boolean) D vwCl [(cA, .int)] A) (N : Nat) (rp : Int32 → (Nat → Int32) → (Nat → Int32) → (Nat → Int32) → (Nat → Int32) → (Nat → Int32) → (Nat → Int32) → Option ((Nat → Int32) × (Nat → Int32) × (Nat → Int32) × (Nat → Int32))) (a1 : Int32) (a2 : Int32) (f1 : Nat → Int32) (f2 : Nat → Int32) (hF : 5 ≤ F) (hL : 112 ≤ Lc) (hrp : ∀ (q0 q1 q2 q3 q4 q5 : Nat) (b1 : Int32) (f0 : Nat → Int32) (f1 : Nat → Int32) (f2 : Nat → Int32) (f3 : Nat → Int32) (f4 : Nat → Int32) (f5 : Nat → Int32) {rs : (Nat → Int32) × (Nat → Int32) × (Nat → Int32) × (Nat → Int32)}, rp b1 f0 f1 f2 f3 f4 f5 = some rs → Ctv l yX3_readPack wsX3_readPack { frames := F, cells := 0, slots := 0, locals := Lc } D vwCl [(cA, .int)] [.ref q0, .int b1] (wdX3_1 cA q0 q1 q2 q3 q4 q5 f0 f1 f2 f3 f4 f5) (wdX3_1 cA q0 q1 q2 q3 q4 q5 rs.1 f1 f2 rs.2.1 rs.2.2.1 rs.2.2.2) 0 0) : ∀ (n : Nat) (v3 : Int32) (v4 : Int32) (v5 : Int32) (f0 : Nat → Int32) (f3 : Nat → Int32) (f4 : Nat → Int32) (f5 : Nat → Int32), bfX3_readItem_15 N rp a1 a2 f1 f2  n v3 v4 v5 f0 f3 f4 f5 = some res → At_ p l e (rmX3_readItem F Lc) s m args below meth c D vwCl A 8 0 0 (Qi_ below args s D vwCl A (wdX3_1 cA q0 q1 q2 q3 q4 q5 res.2.1 f1 f2 res.2.2.1 res.2.2.2.1 res.2.2.2.2) res.1) 15 [(0, .ref q0), (1, .int a1), (2, .int a2), (3, .int v3), (4, .int v4), (5, .int v5)] [] (wdX3_1 cA q0 q1 q2 q3 q4 q5 f0 f1 f2 f3 f4 f5) := by
  intro n
  induction n with
  | zero => intro v3 v4 v5 f0 f3 f4 f5 h; cases h
  | succ n hrc15 =>
    intro v3 v4 v5 f0 f3 f4 f5 h
    replace h : bFX3_readItem_15 N rp a1 a2 f1 f2  (bfX3_readItem_15 N rp a1 a2 f1 f2  n) v3 v4 v5 f0 f3 f4 f5 = some res := h
    generalize bfX3_readItem_15 N rp a1 a2 f1 f2  n = rc15 at h hrc15
    unfold bFX3_readItem_15 at h
    refine a_iload C0 dX3_readItem_15 5 rfl ?_
    refine a_sipush C0 (160 : Int32) dX3_readItem_17 (by decide) ?_
    refine a_icmp_ge C0 45 dX3_readItem_20 (by decide) (fun c_58 => ?_) (fun c_58 => ?_)
    · have h := it_ c_58 h
      refine a_lv [0, 1, 2, 3, 4] (lv' := [(0, .ref q0), (1, .int a1), (2, .int a2), (3, .int v3), (4, .int v4)]) rfl ?_
      exact bwX3_readItem_45 C0 N rp a1 a2 f1 f2 hF hL hrp v3 v4 f0 f3 f4 f5 h
    · have h := ie_ c_58 h
      refine a_iload C0 dX3_readItem_23 4 rfl ?_
      obtain ⟨r_59, h_60, h⟩ := bd1_e h
      refine a_callSNi C0 (wdX3_1 cA q0 q1 q2 q3 q4 q5 f0 f1 f2 f3 f4 f5) (As := [.int v4]) (rest := []) (ctX6_sortOf l D cA v4 h_60) ⟨va_cnB 1 C0.1.2.2.2.2 gX3_readItem_X6_sortOf_n70 rfl rfl rfl (C0.2.2.2.1.2.2 (RX3, 70, yX6_sortOf, RX6) nmX3_readItem_70) (C0.1.2.2.2.2 (.initialized RX6) niX3_readItem_X6) hdX6_sortOf.2 ⟨by dsimp only; omega, by dsimp only; omega⟩, (C0.1.2.2.2.2 (.static yX6_sortOf) nsX3_readItem_X6_sortOf), trivial⟩ [] [0, 1, 2, 3, 4, 5] [0, 1, 2, 3, 4, 5] rfl rfl rfl rfl (by decide) rfl rfl rfl rfl (Nat.le_of_ble_eq_true rfl) dX3_readItem_25 ⟨Nat.zero_le _, Nat.zero_le _⟩ ?_
      refine a_iconst C0 (3 : Int32) dX3_readItem_28 (by decide) ?_
      refine a_icmp_ne C0 45 dX3_readItem_29 (by decide) (fun c_61 => ?_) (fun c_61 => ?_)
      · have h := ie_ c_61 h
        refine a_lv [0, 1, 2, 3, 4] (lv' := [(0, .ref q0), (1, .int a1), (2, .int a2), (3, .int v3), (4, .int v4)]) rfl ?_
        exact bwX3_readItem_45 C0 N rp a1 a2 f1 f2 hF hL hrp v3 v4 f0 f3 f4 f5 h
      · have h := it_ c_61 h
        refine a_aload_n C0 dX3_readItem_32 rfl 0 rfl ?_
        refine a_iload_n C0 dX3_readItem_33 rfl 1 rfl ?_
        obtain ⟨r_62, f0_63, f3_64, h_65, h⟩ := bd3_e h
        refine a_callVi C0 (wdX3_1 cA q0 q1 q2 q3 q4 q5 f0_63 f1 f2 f3_64 f4 f5) (As := [.int a1]) (rest := []) (ctX3_beginItem l D cA q0 q1 q2 q3 q4 a1 f0 f1 f2 f3 h_65) (cwV 1 C0.1.2.2.2.2 gX3_readItem_X3_beginItem rfl rfl rfl hdX3_beginItem ⟨by dsimp only; omega, by dsimp only; omega⟩) [0, 1, 2, 3] [4, 5] [2, 3, 4, 5, 0, 1] rfl rfl rfl rfl (by decide) rfl rfl rfl rfl rfl rfl (Nat.le_of_ble_eq_true rfl) dX3_readItem_34 ⟨Nat.zero_le _, Nat.zero_le _⟩ ?_
        refine a_istore C0 [(4, .int r_62), (0, .ref q0), (1, .int a1), (2, .int a2), (3, .int v3), (5, .int v5)] dX3_readItem_37 (by decide) rfl ?_
        obtain ⟨x_66, ex_66, h⟩ := lt_e h
        refine a_iinc C0 x_66 [(5, .int x_66), (4, .int r_62), (0, .ref q0), (1, .int a1), (2, .int a2), (3, .int v3)] dX3_readItem_39 5 rfl (by subst ex_66; rfl) (by decide) rfl ?_
        refine a_goto C0 15 dX3_readItem_42 (by decide) ?_
        refine a_lv [2, 3, 4, 5, 1, 0] (lv' := [(0, .ref q0), (1, .int a1), (2, .int a2), (3, .int v3), (4, .int r_62), (5, .int x_66)]) rfl ?_
        exact hrc15 v3 r_62 x_66 f0_63 f3_64 f4 f5 h
set_option maxHeartbeats 4000000 in
set_option maxRecDepth 100000 in
theorem bwX3_readItem {p : Program} {l : Launch} {e : Env} {s : State} {m : MethodId} {args : Array Value} {below : List Frame} {meth : Method} {c : Code} {D : va_G} {A : Nat → Prop} {cA : ClassId} {q0 q1 q2 q3 q4 q5 : Nat} {res : Int32 × (Nat → Int32) × (Nat → Int32) × (Nat → Int32) × (Nat → Int32)} {F Lc : Nat} (C0 : cx p s m args meth c cX3_readItem 8 RX3 wsX3_readItem (some .boolean) D vwCl [(cA, .int)] A) (N : Nat) (rp : Int32 → (Nat → Int32) → (Nat → Int32) → (Nat → Int32) → (Nat → Int32) → (Nat → Int32) → (Nat → Int32) → Option ((Nat → Int32) × (Nat → Int32) × (Nat → Int32) × (Nat → Int32))) (a1 : Int32) (a2 : Int32) (f0 : Nat → Int32) (f1 : Nat → Int32) (f2 : Nat → Int32) (f3 : Nat → Int32) (f4 : Nat → Int32) (f5 : Nat → Int32) (hF : 5 ≤ F) (hL : 112 ≤ Lc) (hrp : ∀ (q0 q1 q2 q3 q4 q5 : Nat) (b1 : Int32) (f0 : Nat → Int32) (f1 : Nat → Int32) (f2 : Nat → Int32) (f3 : Nat → Int32) (f4 : Nat → Int32) (f5 : Nat → Int32) {rs : (Nat → Int32) × (Nat → Int32) × (Nat → Int32) × (Nat → Int32)}, rp b1 f0 f1 f2 f3 f4 f5 = some rs → Ctv l yX3_readPack wsX3_readPack { frames := F, cells := 0, slots := 0, locals := Lc } D vwCl [(cA, .int)] [.ref q0, .int b1] (wdX3_1 cA q0 q1 q2 q3 q4 q5 f0 f1 f2 f3 f4 f5) (wdX3_1 cA q0 q1 q2 q3 q4 q5 rs.1 f1 f2 rs.2.1 rs.2.2.1 rs.2.2.2) 0 0) (h : pX3_readItem N rp a1 a2 f0 f1 f2 f3 f4 f5 = some res) : At_ p l e (rmX3_readItem F Lc) s m args below meth c D vwCl A 8 0 0 (Qi_ below args s D vwCl A (wdX3_1 cA q0 q1 q2 q3 q4 q5 res.2.1 f1 f2 res.2.2.1 res.2.2.2.1 res.2.2.2.2) res.1) 0 [(0, .ref q0), (1, .int a1), (2, .int a2)] [] (wdX3_1 cA q0 q1 q2 q3 q4 q5 f0 f1 f2 f3 f4 f5) := by
  unfold pX3_readItem at h
  refine a_aload_n C0 dX3_readItem_0 rfl 0 rfl ?_
  refine a_get C0 inX3_readItem_X3 0 rfl rfl 5 (by decide) lkX3_readItem_30 (fun _ h9 => h9) (.int (f0 5)) rfl dX3_readItem_1 ?_
  obtain ⟨x_67, ex_67, h⟩ := lt_e h
  refine a_topi ex_67 ?_
  refine a_istore_n C0 [(3, .int x_67), (0, .ref q0), (1, .int a1), (2, .int a2)] dX3_readItem_4 rfl (by decide) rfl ?_
  refine a_aload_n C0 dX3_readItem_5 rfl 1 rfl ?_
  refine a_iload_n C0 dX3_readItem_6 rfl 2 rfl ?_
  obtain ⟨r_68, f0_69, f3_70, h_71, h⟩ := bd3_e h
  refine a_callVi C0 (wdX3_1 cA q0 q1 q2 q3 q4 q5 f0_69 f1 f2 f3_70 f4 f5) (As := [.int a1]) (rest := []) (ctX3_beginItem l D cA q0 q1 q2 q3 q4 a1 f0 f1 f2 f3 h_71) (cwV 1 C0.1.2.2.2.2 gX3_readItem_X3_beginItem rfl rfl rfl hdX3_beginItem ⟨by dsimp only; omega, by dsimp only; omega⟩) [0, 1, 2, 3] [4, 5] [2, 3, 4, 5, 0, 1] rfl rfl rfl rfl (by decide) rfl rfl rfl rfl rfl rfl (Nat.le_of_ble_eq_true rfl) dX3_readItem_7 ⟨Nat.zero_le _, Nat.zero_le _⟩ ?_
  refine a_istore C0 [(4, .int r_68), (3, .int x_67), (0, .ref q0), (1, .int a1), (2, .int a2)] dX3_readItem_10 (by decide) rfl ?_
  refine a_iconst C0 (0 : Int32) dX3_readItem_12 (by decide) ?_
  refine a_istore C0 [(5, .int (0 : Int32)), (4, .int r_68), (3, .int x_67), (0, .ref q0), (1, .int a1), (2, .int a2)] dX3_readItem_13 (by decide) rfl ?_
  refine a_lv [3, 4, 5, 2, 1, 0] (lv' := [(0, .ref q0), (1, .int a1), (2, .int a2), (3, .int x_67), (4, .int r_68), (5, .int (0 : Int32))]) rfl ?_
  exact bwX3_readItem_15 C0 N rp a1 a2 f1 f2 hF hL hrp N x_67 r_68 (0 : Int32) f0_69 f3_70 f4 f5 h
set_option maxRecDepth 100000 in
theorem ctX3_readItem (l : Launch) (D : va_G) (cA : ClassId) (q0 q1 q2 q3 q4 q5 : Nat) (F Lc : Nat) (hF : 5 ≤ F) (hL : 112 ≤ Lc) (N : Nat) (rp : Int32 → (Nat → Int32) → (Nat → Int32) → (Nat → Int32) → (Nat → Int32) → (Nat → Int32) → (Nat → Int32) → Option ((Nat → Int32) × (Nat → Int32) × (Nat → Int32) × (Nat → Int32))) (hrp : ∀ (q0 q1 q2 q3 q4 q5 : Nat) (b1 : Int32) (f0 : Nat → Int32) (f1 : Nat → Int32) (f2 : Nat → Int32) (f3 : Nat → Int32) (f4 : Nat → Int32) (f5 : Nat → Int32) {rs : (Nat → Int32) × (Nat → Int32) × (Nat → Int32) × (Nat → Int32)}, rp b1 f0 f1 f2 f3 f4 f5 = some rs → Ctv l yX3_readPack wsX3_readPack { frames := F, cells := 0, slots := 0, locals := Lc } D vwCl [(cA, .int)] [.ref q0, .int b1] (wdX3_1 cA q0 q1 q2 q3 q4 q5 f0 f1 f2 f3 f4 f5) (wdX3_1 cA q0 q1 q2 q3 q4 q5 rs.1 f1 f2 rs.2.1 rs.2.2.1 rs.2.2.2) 0 0) (a1 : Int32) (a2 : Int32) (f0 : Nat → Int32) (f1 : Nat → Int32) (f2 : Nat → Int32) (f3 : Nat → Int32) (f4 : Nat → Int32) (f5 : Nat → Int32) {res : Int32 × (Nat → Int32) × (Nat → Int32) × (Nat → Int32) × (Nat → Int32)} (h : pX3_readItem N rp a1 a2 f0 f1 f2 f3 f4 f5 = some res) : Cti l yX3_readItem wsX3_readItem (rmX3_readItem F Lc) D vwCl [(cA, .int)] [.ref q0, .int a1, .int a2] (wdX3_1 cA q0 q1 q2 q3 q4 q5 f0 f1 f2 f3 f4 f5) (wdX3_1 cA q0 q1 q2 q3 q4 q5 res.2.1 f1 f2 res.2.2.1 res.2.2.2.1 res.2.2.2.2) 0 0 res.1 :=
  ct_i (maxL := 8) (cc := cX3_readItem) (by decide) rfl (Nat.le_of_ble_eq_true rfl) (fun p e s m below meth c C0 => bwX3_readItem C0 N rp a1 a2 f0 f1 f2 f3 f4 f5 hF hL hrp h)
/-! PackDrawer$PlainReader.readPack -/
theorem hdX3_readItem : yX3_readItem.cls = RX3 ∧ yX3_readItem.cls ≠ "java/lang/invoke/MethodHandle" ∧ yX3_readItem.cls ≠ "java/lang/invoke/VarHandle" ∧ (parseMethodDescriptor yX3_readItem.desc).map (fun d => d.parameters.length) = some 2 := by decide +kernel
abbrev rmX3_readPack (F Lc : Nat) : Room := { frames := F + 3, cells := 0, slots := 0, locals := Lc + 77 }
theorem lkX3_readPack_15 : Cond.fieldLink RX3 15 RX3 (TX3 1).2.1 (TX3 1).2.2.1 ∈ wsX3_readPack := by decide +kernel
theorem inX3_readPack_X3 : ∀ w ∈ u_ws RX3 TX3 6, w ∈ wsX3_readPack := by decide +kernel
theorem lkX3_readPack_25 : Cond.fieldLink RX3 25 RX3 (TX3 2).2.1 (TX3 2).2.2.1 ∈ wsX3_readPack := by decide +kernel
def bFX3_readPack_21 (N : Nat) (rp : Int32 → (Nat → Int32) → (Nat → Int32) → (Nat → Int32) → (Nat → Int32) → (Nat → Int32) → (Nat → Int32) → Option ((Nat → Int32) × (Nat → Int32) × (Nat → Int32) × (Nat → Int32))) (a1 : Int32) (f1 : Nat → Int32) (f2 : Nat → Int32) (rc21 : Int32 → Int32 → Int32 → (Nat → Int32) → (Nat → Int32) → (Nat → Int32) → (Nat → Int32) → Option ((Nat → Int32) × (Nat → Int32) × (Nat → Int32) × (Nat → Int32))) (v2 : Int32) (v3 : Int32) (v4 : Int32) (f0 : Nat → Int32) (f3 : Nat → Int32) (f4 : Nat → Int32) (f5 : Nat → Int32) : Option ((Nat → Int32) × (Nat → Int32) × (Nat → Int32) × (Nat → Int32)) := if (160 : Int32) < v4 then some (f0, f3, f4, f5) else if v3 = 0 then some (f0, f3, f4, f5) else bd5 (pX3_readItem N rp a1 v2 f0 f1 f2 f3 f4 f5) (fun r_3 f0_4 f3_5 f4_6 f5_7 => lt_ ((v4 + (1 : Int32))) (fun x_9 => rc21 v2 r_3 x_9 f0_4 f3_5 f4_6 f5_7))
def bfX3_readPack_21 (N : Nat) (rp : Int32 → (Nat → Int32) → (Nat → Int32) → (Nat → Int32) → (Nat → Int32) → (Nat → Int32) → (Nat → Int32) → Option ((Nat → Int32) × (Nat → Int32) × (Nat → Int32) × (Nat → Int32))) (a1 : Int32) (f1 : Nat → Int32) (f2 : Nat → Int32) : Nat → Int32 → Int32 → Int32 → (Nat → Int32) → (Nat → Int32) → (Nat → Int32) → (Nat → Int32) → Option ((Nat → Int32) × (Nat → Int32) × (Nat → Int32) × (Nat → Int32))
  | 0 => fun _ _ _ _ _ _ _ => none
  | n + 1 => bFX3_readPack_21 N rp a1 f1 f2  (bfX3_readPack_21 N rp a1 f1 f2  n)
def pX3_readPack (N : Nat) (rp : Int32 → (Nat → Int32) → (Nat → Int32) → (Nat → Int32) → (Nat → Int32) → (Nat → Int32) → (Nat → Int32) → Option ((Nat → Int32) × (Nat → Int32) × (Nat → Int32) × (Nat → Int32))) (a1 : Int32) (f0 : Nat → Int32) (f1 : Nat → Int32) (f2 : Nat → Int32) (f3 : Nat → Int32) (f4 : Nat → Int32) (f5 : Nat → Int32) : Option ((Nat → Int32) × (Nat → Int32) × (Nat → Int32) × (Nat → Int32)) := bd1 (pX0_reachDepth a1 f3) (fun f3_10 => bd1 (pX4_top f4) (fun r_12 => bfX3_readPack_21 N rp a1 f1 f2 N r_12 (1 : Int32) (0 : Int32) f0 f3_10 f4 f5))
set_option maxHeartbeats 4000000 in
set_option maxRecDepth 100000 in
theorem bwX3_readPack_21 {p : Program} {l : Launch} {e : Env} {s : State} {m : MethodId} {args : Array Value} {below : List Frame} {meth : Method} {c : Code} {D : va_G} {A : Nat → Prop} {cA : ClassId} {q0 q1 q2 q3 q4 q5 : Nat} {res : (Nat → Int32) × (Nat → Int32) × (Nat → Int32) × (Nat → Int32)} {F Lc : Nat} (C0 : cx p s m args meth c cX3_readPack 5 RX3 wsX3_readPack none D vwCl [(cA, .int)] A) (N : Nat) (rp : Int32 → (Nat → Int32) → (Nat → Int32) → (Nat → Int32) → (Nat → Int32) → (Nat → Int32) → (Nat → Int32) → Option ((Nat → Int32) × (Nat → Int32) × (Nat → Int32) × (Nat → Int32))) (a1 : Int32) (f1 : Nat → Int32) (f2 : Nat → Int32) (hF : 5 ≤ F) (hL : 112 ≤ Lc) (hrp : ∀ (q0 q1 q2 q3 q4 q5 : Nat) (b1 : Int32) (f0 : Nat → Int32) (f1 : Nat → Int32) (f2 : Nat → Int32) (f3 : Nat → Int32) (f4 : Nat → Int32) (f5 : Nat → Int32) {rs : (Nat → Int32) × (Nat → Int32) × (Nat → Int32) × (Nat → Int32)}, rp b1 f0 f1 f2 f3 f4 f5 = some rs → Ctv l yX3_readPack wsX3_readPack { frames := F, cells := 0, slots := 0, locals := Lc } D vwCl [(cA, .int)] [.ref q0, .int b1] (wdX3_1 cA q0 q1 q2 q3 q4 q5 f0 f1 f2 f3 f4 f5) (wdX3_1 cA q0 q1 q2 q3 q4 q5 rs.1 f1 f2 rs.2.1 rs.2.2.1 rs.2.2.2) 0 0) : ∀ (n : Nat) (v2 : Int32) (v3 : Int32) (v4 : Int32) (f0 : Nat → Int32) (f3 : Nat → Int32) (f4 : Nat → Int32) (f5 : Nat → Int32), bfX3_readPack_21 N rp a1 f1 f2  n v2 v3 v4 f0 f3 f4 f5 = some res → At_ p l e (rmX3_readPack F Lc) s m args below meth c D vwCl A 5 0 0 (Qv_ below args s D vwCl A (wdX3_1 cA q0 q1 q2 q3 q4 q5 res.1 f1 f2 res.2.1 res.2.2.1 res.2.2.2)) 21 [(0, .ref q0), (1, .int a1), (2, .int v2), (3, .int v3), (4, .int v4)] [] (wdX3_1 cA q0 q1 q2 q3 q4 q5 f0 f1 f2 f3 f4 f5) := by
  intro n
  induction n with
  | zero => intro v2 v3 v4 f0 f3 f4 f5 h; cases h
  | succ n hrc21 =>
    intro v2 v3 v4 f0 f3 f4 f5 h
    replace h : bFX3_readPack_21 N rp a1 f1 f2  (bfX3_readPack_21 N rp a1 f1 f2  n) v2 v3 v4 f0 f3 f4 f5 = some res := h
    generalize bfX3_readPack_21 N rp a1 f1 f2  n = rc21 at h hrc21
    unfold bFX3_readPack_21 at h
    refine a_iload C0 dX3_readPack_21 4 rfl ?_
    refine a_sipush C0 (160 : Int32) dX3_readPack_23 (by decide) ?_
    refine a_icmp_gt C0 46 dX3_readPack_26 (by decide) (fun c_1 => ?_) (fun c_1 => ?_)
    · have h := it_ c_1 h
      obtain rfl := Option.some.inj h
      exact a_vret C0 dX3_readPack_46 rfl
    · have h := ie_ c_1 h
      refine a_iload_n C0 dX3_readPack_29 rfl 3 rfl ?_
      refine a_if_eq C0 46 dX3_readPack_30 (by decide) (fun c_2 => ?_) (fun c_2 => ?_)
      · have h := it_ c_2 h
        obtain rfl := Option.some.inj h
        exact a_vret C0 dX3_readPack_46 rfl
      · have h := ie_ c_2 h
        refine a_aload_n C0 dX3_readPack_33 rfl 0 rfl ?_
        refine a_iload_n C0 dX3_readPack_34 rfl 1 rfl ?_
        refine a_iload_n C0 dX3_readPack_35 rfl 2 rfl ?_
        obtain ⟨r_3, f0_4, f3_5, f4_6, f5_7, h_8, h⟩ := bd5_e h
        refine a_callVi C0 (wdX3_1 cA q0 q1 q2 q3 q4 q5 f0_4 f1 f2 f3_5 f4_6 f5_7) (As := [.int a1, .int v2]) (rest := []) (ctX3_readItem l D cA q0 q1 q2 q3 q4 q5 F Lc hF hL N rp hrp a1 v2 f0 f1 f2 f3 f4 f5 h_8) (cwV 2 C0.1.2.2.2.2 gX3_readPack_X3_readItem rfl rfl rfl hdX3_readItem ⟨by dsimp only; omega, by dsimp only; omega⟩) [0, 1, 2, 3, 4, 5] [] [0, 1, 2, 3, 4, 5] rfl rfl rfl rfl (by decide) rfl rfl rfl rfl rfl rfl (Nat.le_of_ble_eq_true rfl) dX3_readPack_36 ⟨Nat.zero_le _, Nat.zero_le _⟩ ?_
        refine a_istore_n C0 [(3, .int r_3), (0, .ref q0), (1, .int a1), (2, .int v2), (4, .int v4)] dX3_readPack_39 rfl (by decide) rfl ?_
        obtain ⟨x_9, ex_9, h⟩ := lt_e h
        refine a_iinc C0 x_9 [(4, .int x_9), (3, .int r_3), (0, .ref q0), (1, .int a1), (2, .int v2)] dX3_readPack_40 4 rfl (by subst ex_9; rfl) (by decide) rfl ?_
        refine a_goto C0 21 dX3_readPack_43 (by decide) ?_
        refine a_lv [2, 3, 4, 1, 0] (lv' := [(0, .ref q0), (1, .int a1), (2, .int v2), (3, .int r_3), (4, .int x_9)]) rfl ?_
        exact hrc21 v2 r_3 x_9 f0_4 f3_5 f4_6 f5_7 h
set_option maxHeartbeats 4000000 in
set_option maxRecDepth 100000 in
theorem bwX3_readPack {p : Program} {l : Launch} {e : Env} {s : State} {m : MethodId} {args : Array Value} {below : List Frame} {meth : Method} {c : Code} {D : va_G} {A : Nat → Prop} {cA : ClassId} {q0 q1 q2 q3 q4 q5 : Nat} {res : (Nat → Int32) × (Nat → Int32) × (Nat → Int32) × (Nat → Int32)} {F Lc : Nat} (C0 : cx p s m args meth c cX3_readPack 5 RX3 wsX3_readPack none D vwCl [(cA, .int)] A) (N : Nat) (rp : Int32 → (Nat → Int32) → (Nat → Int32) → (Nat → Int32) → (Nat → Int32) → (Nat → Int32) → (Nat → Int32) → Option ((Nat → Int32) × (Nat → Int32) × (Nat → Int32) × (Nat → Int32))) (a1 : Int32) (f0 : Nat → Int32) (f1 : Nat → Int32) (f2 : Nat → Int32) (f3 : Nat → Int32) (f4 : Nat → Int32) (f5 : Nat → Int32) (hF : 5 ≤ F) (hL : 112 ≤ Lc) (hrp : ∀ (q0 q1 q2 q3 q4 q5 : Nat) (b1 : Int32) (f0 : Nat → Int32) (f1 : Nat → Int32) (f2 : Nat → Int32) (f3 : Nat → Int32) (f4 : Nat → Int32) (f5 : Nat → Int32) {rs : (Nat → Int32) × (Nat → Int32) × (Nat → Int32) × (Nat → Int32)}, rp b1 f0 f1 f2 f3 f4 f5 = some rs → Ctv l yX3_readPack wsX3_readPack { frames := F, cells := 0, slots := 0, locals := Lc } D vwCl [(cA, .int)] [.ref q0, .int b1] (wdX3_1 cA q0 q1 q2 q3 q4 q5 f0 f1 f2 f3 f4 f5) (wdX3_1 cA q0 q1 q2 q3 q4 q5 rs.1 f1 f2 rs.2.1 rs.2.2.1 rs.2.2.2) 0 0) (h : pX3_readPack N rp a1 f0 f1 f2 f3 f4 f5 = some res) : At_ p l e (rmX3_readPack F Lc) s m args below meth c D vwCl A 5 0 0 (Qv_ below args s D vwCl A (wdX3_1 cA q0 q1 q2 q3 q4 q5 res.1 f1 f2 res.2.1 res.2.2.1 res.2.2.2)) 0 [(0, .ref q0), (1, .int a1)] [] (wdX3_1 cA q0 q1 q2 q3 q4 q5 f0 f1 f2 f3 f4 f5) := by
  unfold pX3_readPack at h
  refine a_aload_n C0 dX3_readPack_0 rfl 0 rfl ?_
  refine a_get C0 inX3_readPack_X3 0 rfl rfl 1 (by decide) lkX3_readPack_15 (fun _ h9 => h9) (.ref q3) rfl dX3_readPack_1 ?_
  refine a_iload_n C0 dX3_readPack_4 rfl 1 rfl ?_
  obtain ⟨f3_10, h_11, h⟩ := bd1_e h
  refine a_callVv C0 (wdX3_1 cA q0 q1 q2 q3 q4 q5 f0 f1 f2 f3_10 f4 f5) (As := [.int a1]) (rest := []) (ctX0_reachDepth l D cA q3 q4 a1 f3 h_11) (cwV 1 C0.1.2.2.2.2 gX3_readPack_X0_reachDepth rfl rfl rfl hdX0_reachDepth ⟨by dsimp only; omega, by dsimp only; omega⟩) [3] [0, 1, 2, 4, 5] [0, 1, 2, 5, 3, 4] rfl rfl rfl rfl (by decide) rfl rfl rfl rfl rfl rfl (Nat.le_of_ble_eq_true rfl) dX3_readPack_5 ⟨Nat.zero_le _, Nat.zero_le _⟩ ?_
  refine a_aload_n C0 dX3_readPack_8 rfl 0 rfl ?_
  refine a_get C0 inX3_readPack_X3 0 rfl rfl 2 (by decide) lkX3_readPack_25 (fun _ h9 => h9) (.ref q4) rfl dX3_readPack_9 ?_
  obtain ⟨r_12, h_13, h⟩ := bd1_e h
  refine a_callVi C0 (wdX3_1 cA q0 q1 q2 q3 q4 q5 f0 f1 f2 f3_10 f4 f5) (As := []) (rest := []) (ctX4_top l D cA q4 q5 f4 h_13) (cwV 0 C0.1.2.2.2.2 gX3_readPack_X4_top rfl rfl rfl hdX4_top ⟨by dsimp only; omega, by dsimp only; omega⟩) [4] [0, 1, 2, 3, 5] [0, 1, 2, 3, 5, 4] rfl rfl rfl rfl (by decide) rfl rfl rfl rfl rfl rfl (Nat.le_of_ble_eq_true rfl) dX3_readPack_12 ⟨Nat.zero_le _, Nat.zero_le _⟩ ?_
  refine a_istore_n C0 [(2, .int r_12), (0, .ref q0), (1, .int a1)] dX3_readPack_15 rfl (by decide) rfl ?_
  refine a_iconst C0 (1 : Int32) dX3_readPack_16 (by decide) ?_
  refine a_istore_n C0 [(3, .int (1 : Int32)), (2, .int r_12), (0, .ref q0), (1, .int a1)] dX3_readPack_17 rfl (by decide) rfl ?_
  refine a_iconst C0 (0 : Int32) dX3_readPack_18 (by decide) ?_
  refine a_istore C0 [(4, .int (0 : Int32)), (3, .int (1 : Int32)), (2, .int r_12), (0, .ref q0), (1, .int a1)] dX3_readPack_19 (by decide) rfl ?_
  refine a_lv [3, 4, 2, 1, 0] (lv' := [(0, .ref q0), (1, .int a1), (2, .int r_12), (3, .int (1 : Int32)), (4, .int (0 : Int32))]) rfl ?_
  exact bwX3_readPack_21 C0 N rp a1 f1 f2 hF hL hrp N r_12 (1 : Int32) (0 : Int32) f0 f3_10 f4 f5 h
set_option maxRecDepth 100000 in
theorem ctX3_readPack (l : Launch) (D : va_G) (cA : ClassId) (q0 q1 q2 q3 q4 q5 : Nat) (F Lc : Nat) (hF : 5 ≤ F) (hL : 112 ≤ Lc) (N : Nat) (rp : Int32 → (Nat → Int32) → (Nat → Int32) → (Nat → Int32) → (Nat → Int32) → (Nat → Int32) → (Nat → Int32) → Option ((Nat → Int32) × (Nat → Int32) × (Nat → Int32) × (Nat → Int32))) (hrp : ∀ (q0 q1 q2 q3 q4 q5 : Nat) (b1 : Int32) (f0 : Nat → Int32) (f1 : Nat → Int32) (f2 : Nat → Int32) (f3 : Nat → Int32) (f4 : Nat → Int32) (f5 : Nat → Int32) {rs : (Nat → Int32) × (Nat → Int32) × (Nat → Int32) × (Nat → Int32)}, rp b1 f0 f1 f2 f3 f4 f5 = some rs → Ctv l yX3_readPack wsX3_readPack { frames := F, cells := 0, slots := 0, locals := Lc } D vwCl [(cA, .int)] [.ref q0, .int b1] (wdX3_1 cA q0 q1 q2 q3 q4 q5 f0 f1 f2 f3 f4 f5) (wdX3_1 cA q0 q1 q2 q3 q4 q5 rs.1 f1 f2 rs.2.1 rs.2.2.1 rs.2.2.2) 0 0) (a1 : Int32) (f0 : Nat → Int32) (f1 : Nat → Int32) (f2 : Nat → Int32) (f3 : Nat → Int32) (f4 : Nat → Int32) (f5 : Nat → Int32) {res : (Nat → Int32) × (Nat → Int32) × (Nat → Int32) × (Nat → Int32)} (h : pX3_readPack N rp a1 f0 f1 f2 f3 f4 f5 = some res) : Ctv l yX3_readPack wsX3_readPack (rmX3_readPack F Lc) D vwCl [(cA, .int)] [.ref q0, .int a1] (wdX3_1 cA q0 q1 q2 q3 q4 q5 f0 f1 f2 f3 f4 f5) (wdX3_1 cA q0 q1 q2 q3 q4 q5 res.1 f1 f2 res.2.1 res.2.2.1 res.2.2.2) 0 0 :=
  ct_n (S := Unit) (maxL := 5) (cc := cX3_readPack) (by decide) rfl (Nat.le_of_ble_eq_true rfl) (fun p e s m below meth c _ C0 => bwX3_readPack C0 N rp a1 f0 f1 f2 f3 f4 f5 hF hL hrp h)
def qX3_readPack (N : Nat) : Nat → Int32 → (Nat → Int32) → (Nat → Int32) → (Nat → Int32) → (Nat → Int32) → (Nat → Int32) → (Nat → Int32) → Option ((Nat → Int32) × (Nat → Int32) × (Nat → Int32) × (Nat → Int32))
  | 0 => fun _ _ _ _ _ _ _ => none
  | d + 1 => pX3_readPack N (qX3_readPack N d)
abbrev rqX3_readPack (d : Nat) : Room := { frames := 5 + 3 * d, cells := 0, slots := 0, locals := 112 + 77 * d }
set_option maxHeartbeats 4000000 in
theorem kqX3_readPack (l : Launch) (D : va_G) (cA : ClassId) (N : Nat) : ∀ (d : Nat), ∀ (q0 q1 q2 q3 q4 q5 : Nat) (a1 : Int32) (f0 : Nat → Int32) (f1 : Nat → Int32) (f2 : Nat → Int32) (f3 : Nat → Int32) (f4 : Nat → Int32) (f5 : Nat → Int32) {res : (Nat → Int32) × (Nat → Int32) × (Nat → Int32) × (Nat → Int32)}, qX3_readPack N d a1 f0 f1 f2 f3 f4 f5 = some res → Ctv l yX3_readPack wsX3_readPack (rqX3_readPack d) D vwCl [(cA, .int)] [.ref q0, .int a1] (wdX3_1 cA q0 q1 q2 q3 q4 q5 f0 f1 f2 f3 f4 f5) (wdX3_1 cA q0 q1 q2 q3 q4 q5 res.1 f1 f2 res.2.1 res.2.2.1 res.2.2.2) 0 0 := by
  intro d
  induction d with
  | zero => intro q0 q1 q2 q3 q4 q5 a1 f0 f1 f2 f3 f4 f5 res h; cases h
  | succ d ih =>
    intro q0 q1 q2 q3 q4 q5 a1 f0 f1 f2 f3 f4 f5 res h
    replace h : pX3_readPack N (qX3_readPack N d) a1 f0 f1 f2 f3 f4 f5 = some res := h
    have hm := ctX3_readPack l D cA q0 q1 q2 q3 q4 q5 (5 + 3 * d) (112 + 77 * d) (by omega) (by omega) N (qX3_readPack N d) (fun q0 q1 q2 q3 q4 q5 a1 f0 f1 f2 f3 f4 f5 rs hh => ih q0 q1 q2 q3 q4 q5 a1 f0 f1 f2 f3 f4 f5 hh) a1 f0 f1 f2 f3 f4 f5 h
    have er : rmX3_readPack (5 + 3 * d) (112 + 77 * d) = rqX3_readPack (d + 1) := by
      simp only [rmX3_readPack, rqX3_readPack, Nat.mul_succ, Nat.mul_add, Nat.add_assoc]
    rw [← er]
    exact hm
theorem kkX3_readPack (l : Launch) (D : va_G) (cA : ClassId) (q0 q1 q2 q3 q4 q5 : Nat) (N d : Nat) (a1 : Int32) (f0 : Nat → Int32) (f1 : Nat → Int32) (f2 : Nat → Int32) (f3 : Nat → Int32) (f4 : Nat → Int32) (f5 : Nat → Int32) {res : (Nat → Int32) × (Nat → Int32) × (Nat → Int32) × (Nat → Int32)} (h : qX3_readPack N d a1 f0 f1 f2 f3 f4 f5 = some res) : Ctv l yX3_readPack wsX3_readPack (rqX3_readPack d) D vwCl [(cA, .int)] [.ref q0, .int a1] (wdX3_1 cA q0 q1 q2 q3 q4 q5 f0 f1 f2 f3 f4 f5) (wdX3_1 cA q0 q1 q2 q3 q4 q5 res.1 f1 f2 res.2.1 res.2.2.1 res.2.2.2) 0 0 := kqX3_readPack l D cA N d q0 q1 q2 q3 q4 q5 a1 f0 f1 f2 f3 f4 f5 h
/-! PackDrawer$PlainReader.read -/
abbrev rmX3_read : Room := { frames := 30, cells := 0, slots := 0, locals := 752 }
theorem lkX3_read_15 : Cond.fieldLink RX3 15 RX3 (TX3 1).2.1 (TX3 1).2.2.1 ∈ wsX3_read := by decide +kernel
theorem inX3_read_X3 : ∀ w ∈ u_ws RX3 TX3 6, w ∈ wsX3_read := by decide +kernel
theorem lkX3_read_30 : Cond.fieldLink RX3 30 RX3 (TX3 5).2.1 (TX3 5).2.2.1 ∈ wsX3_read := by decide +kernel
theorem lkX3_read_9 : Cond.fieldLink RX3 9 RX3 (TX3 0).2.1 (TX3 0).2.2.1 ∈ wsX3_read := by decide +kernel
theorem lkX3_read_40 : Cond.fieldLink RX3 40 RX3 (TX3 3).2.1 (TX3 3).2.2.1 ∈ wsX3_read := by decide +kernel
theorem lkX3_read_43 : Cond.fieldLink RX3 43 RX3 (TX3 4).2.1 (TX3 4).2.2.1 ∈ wsX3_read := by decide +kernel
def pX3_read (N : Nat) (a1 : Int32) (a2 : Int32) (a3 : Int32) (f0 : Nat → Int32) (f1 : Nat → Int32) (f2 : Nat → Int32) (f3 : Nat → Int32) (f4 : Nat → Int32) (f5 : Nat → Int32) : Option ((Nat → Int32) × (Nat → Int32) × (Nat → Int32) × (Nat → Int32)) := bd2 (pX0_start a1 a2 a3 f3 f4) (fun f3_1 f4_2 => lt_ (upd f0 5 (0 : Int32)) (fun f0_4 => bd1 (pX5_count f1) (fun r_5 => lt_ (upd f0_4 3 r_5) (fun f0_7 => bd1 (pX5_count f1) (fun r_8 => lt_ (upd f0_7 4 r_8) (fun f0_10 => bd4 (qX3_readPack N 8 (1 : Int32) f0_10 f1 f2 f3_1 f4_2 f5) (fun f0_11 f3_12 f4_13 f5_14 => bd1 (pX5_count f1) (fun r_16 => if r_16 ≤ (f0_11 5) then some (f0_11, f3_12, f4_13, f5_14) else bd1 (pX0_fail (5 : Int32) (f0_11 5) f3_12) (fun f3_19 => some (f0_11, f3_19, f4_13, f5_14))))))))))
set_option maxHeartbeats 4000000 in
set_option maxRecDepth 100000 in
theorem bwX3_read {p : Program} {l : Launch} {e : Env} {s : State} {m : MethodId} {args : Array Value} {below : List Frame} {meth : Method} {c : Code} {D : va_G} {A : Nat → Prop} {cA : ClassId} {q0 q1 q2 q3 q4 q5 : Nat} {res : (Nat → Int32) × (Nat → Int32) × (Nat → Int32) × (Nat → Int32)} (C0 : cx p s m args meth c cX3_read 4 RX3 wsX3_read none D vwCl [(cA, .int)] A) (N : Nat) (a1 : Int32) (a2 : Int32) (a3 : Int32) (f0 : Nat → Int32) (f1 : Nat → Int32) (f2 : Nat → Int32) (f3 : Nat → Int32) (f4 : Nat → Int32) (f5 : Nat → Int32) (h : pX3_read N a1 a2 a3 f0 f1 f2 f3 f4 f5 = some res) : At_ p l e (rmX3_read) s m args below meth c D vwCl A 4 0 0 (Qv_ below args s D vwCl A (wdX3_1 cA q0 q1 q2 q3 q4 q5 res.1 f1 f2 res.2.1 res.2.2.1 res.2.2.2)) 0 [(0, .ref q0), (1, .int a1), (2, .int a2), (3, .int a3)] [] (wdX3_1 cA q0 q1 q2 q3 q4 q5 f0 f1 f2 f3 f4 f5) := by
  unfold pX3_read at h
  refine a_aload_n C0 dX3_read_0 rfl 0 rfl ?_
  refine a_get C0 inX3_read_X3 0 rfl rfl 1 (by decide) lkX3_read_15 (fun _ h9 => h9) (.ref q3) rfl dX3_read_1 ?_
  refine a_iload_n C0 dX3_read_4 rfl 1 rfl ?_
  refine a_iload_n C0 dX3_read_5 rfl 2 rfl ?_
  refine a_iload_n C0 dX3_read_6 rfl 3 rfl ?_
  obtain ⟨f3_1, f4_2, h_3, h⟩ := bd2_e h
  refine a_callVv C0 (wdX3_1 cA q0 q1 q2 q3 q4 q5 f0 f1 f2 f3_1 f4_2 f5) (As := [.int a1, .int a2, .int a3]) (rest := []) (ctX0_start l D cA q3 q4 q5 a1 a2 a3 f3 f4 h_3) (cwV 3 C0.1.2.2.2.2 gX3_read_X0_start rfl rfl rfl hdX0_start ⟨Nat.le_of_ble_eq_true rfl, Nat.le_of_ble_eq_true rfl⟩) [3, 4] [0, 1, 2, 5] [0, 1, 2, 4, 5, 3] rfl rfl rfl rfl (by decide) rfl rfl rfl rfl rfl rfl (Nat.le_of_ble_eq_true rfl) dX3_read_7 ⟨Nat.zero_le _, Nat.zero_le _⟩ ?_
  refine a_aload_n C0 dX3_read_10 rfl 0 rfl ?_
  refine a_iconst C0 (0 : Int32) dX3_read_11 (by decide) ?_
  obtain ⟨f0_4, ef0_4, h⟩ := lt_e h
  refine a_put C0 inX3_read_X3 tyX3 tyX3_ok nmX3 0 rfl rfl 5 (by decide) lkX3_read_30 (fun _ h9 => h9) rfl (ty := .int) (v := .int (0 : Int32)) (by decide +kernel) rfl rfl (Nat.le_of_ble_eq_true rfl) dX3_read_12 (wdX3_1 cA q0 q1 q2 q3 q4 q5 f0_4 f1 f2 f3_1 f4_2 f5) (by subst ef0_4; rfl) ?_
  refine a_aload_n C0 dX3_read_15 rfl 0 rfl ?_
  refine a_aload_n C0 dX3_read_16 rfl 0 rfl ?_
  refine a_get C0 inX3_read_X3 0 rfl rfl 0 (by decide) lkX3_read_9 (fun _ h9 => h9) (.ref q1) rfl dX3_read_17 ?_
  obtain ⟨r_5, h_6, h⟩ := bd1_e h
  refine a_callVi C0 (wdX3_1 cA q0 q1 q2 q3 q4 q5 f0_4 f1 f2 f3_1 f4_2 f5) (As := []) (rest := [.ref q0]) (ctX5_count l D cA q1 q2 f1 h_6) (cwV 0 C0.1.2.2.2.2 gX3_read_X5_count rfl rfl rfl hdX5_count ⟨Nat.le_of_ble_eq_true rfl, Nat.le_of_ble_eq_true rfl⟩) [1] [0, 2, 3, 4, 5] [0, 5, 1, 2, 3, 4] rfl rfl rfl rfl (by decide) rfl rfl rfl rfl rfl rfl (Nat.le_of_ble_eq_true rfl) dX3_read_20 ⟨Nat.zero_le _, Nat.zero_le _⟩ ?_
  obtain ⟨f0_7, ef0_7, h⟩ := lt_e h
  refine a_put C0 inX3_read_X3 tyX3 tyX3_ok nmX3 0 rfl rfl 3 (by decide) lkX3_read_40 (fun _ h9 => h9) rfl (ty := .int) (v := .int r_5) (by decide +kernel) rfl rfl (Nat.le_of_ble_eq_true rfl) dX3_read_23 (wdX3_1 cA q0 q1 q2 q3 q4 q5 f0_7 f1 f2 f3_1 f4_2 f5) (by subst ef0_7; rfl) ?_
  refine a_aload_n C0 dX3_read_26 rfl 0 rfl ?_
  refine a_aload_n C0 dX3_read_27 rfl 0 rfl ?_
  refine a_get C0 inX3_read_X3 0 rfl rfl 0 (by decide) lkX3_read_9 (fun _ h9 => h9) (.ref q1) rfl dX3_read_28 ?_
  obtain ⟨r_8, h_9, h⟩ := bd1_e h
  refine a_callVi C0 (wdX3_1 cA q0 q1 q2 q3 q4 q5 f0_7 f1 f2 f3_1 f4_2 f5) (As := []) (rest := [.ref q0]) (ctX5_count l D cA q1 q2 f1 h_9) (cwV 0 C0.1.2.2.2.2 gX3_read_X5_count rfl rfl rfl hdX5_count ⟨Nat.le_of_ble_eq_true rfl, Nat.le_of_ble_eq_true rfl⟩) [1] [0, 2, 3, 4, 5] [0, 5, 1, 2, 3, 4] rfl rfl rfl rfl (by decide) rfl rfl rfl rfl rfl rfl (Nat.le_of_ble_eq_true rfl) dX3_read_31 ⟨Nat.zero_le _, Nat.zero_le _⟩ ?_
  obtain ⟨f0_10, ef0_10, h⟩ := lt_e h
  refine a_put C0 inX3_read_X3 tyX3 tyX3_ok nmX3 0 rfl rfl 4 (by decide) lkX3_read_43 (fun _ h9 => h9) rfl (ty := .int) (v := .int r_8) (by decide +kernel) rfl rfl (Nat.le_of_ble_eq_true rfl) dX3_read_34 (wdX3_1 cA q0 q1 q2 q3 q4 q5 f0_10 f1 f2 f3_1 f4_2 f5) (by subst ef0_10; rfl) ?_
  refine a_aload_n C0 dX3_read_37 rfl 0 rfl ?_
  refine a_iconst C0 (1 : Int32) dX3_read_38 (by decide) ?_
  obtain ⟨f0_11, f3_12, f4_13, f5_14, h_15, h⟩ := bd4_e h
  refine a_callVv C0 (wdX3_1 cA q0 q1 q2 q3 q4 q5 f0_11 f1 f2 f3_12 f4_13 f5_14) (As := [.int (1 : Int32)]) (rest := []) (kkX3_readPack l D cA q0 q1 q2 q3 q4 q5 N 8 (1 : Int32) f0_10 f1 f2 f3_1 f4_2 f5 h_15) (cwV 1 C0.1.2.2.2.2 gX3_read_X3_readPack rfl rfl rfl hdX3_readPack ⟨Nat.le_of_ble_eq_true rfl, Nat.le_of_ble_eq_true rfl⟩) [0, 1, 2, 3, 4, 5] [] [0, 1, 2, 3, 4, 5] rfl rfl rfl rfl (by decide) rfl rfl rfl rfl rfl rfl (Nat.le_of_ble_eq_true rfl) dX3_read_39 ⟨Nat.zero_le _, Nat.zero_le _⟩ ?_
  refine a_aload_n C0 dX3_read_42 rfl 0 rfl ?_
  refine a_get C0 inX3_read_X3 0 rfl rfl 5 (by decide) lkX3_read_30 (fun _ h9 => h9) (.int (f0_11 5)) rfl dX3_read_43 ?_
  refine a_aload_n C0 dX3_read_46 rfl 0 rfl ?_
  refine a_get C0 inX3_read_X3 0 rfl rfl 0 (by decide) lkX3_read_9 (fun _ h9 => h9) (.ref q1) rfl dX3_read_47 ?_
  obtain ⟨r_16, h_17, h⟩ := bd1_e h
  refine a_callVi C0 (wdX3_1 cA q0 q1 q2 q3 q4 q5 f0_11 f1 f2 f3_12 f4_13 f5_14) (As := []) (rest := [.int (f0_11 5)]) (ctX5_count l D cA q1 q2 f1 h_17) (cwV 0 C0.1.2.2.2.2 gX3_read_X5_count rfl rfl rfl hdX5_count ⟨Nat.le_of_ble_eq_true rfl, Nat.le_of_ble_eq_true rfl⟩) [1] [0, 2, 3, 4, 5] [0, 5, 1, 2, 3, 4] rfl rfl rfl rfl (by decide) rfl rfl rfl rfl rfl rfl (Nat.le_of_ble_eq_true rfl) dX3_read_50 ⟨Nat.zero_le _, Nat.zero_le _⟩ ?_
  refine a_icmp_ge C0 68 dX3_read_53 (by decide) (fun c_18 => ?_) (fun c_18 => ?_)
  · have h := it_ c_18 h
    obtain rfl := Option.some.inj h
    exact a_vret C0 dX3_read_68 rfl
  · have h := ie_ c_18 h
    refine a_aload_n C0 dX3_read_56 rfl 0 rfl ?_
    refine a_get C0 inX3_read_X3 0 rfl rfl 1 (by decide) lkX3_read_15 (fun _ h9 => h9) (.ref q3) rfl dX3_read_57 ?_
    refine a_iconst C0 (5 : Int32) dX3_read_60 (by decide) ?_
    refine a_aload_n C0 dX3_read_61 rfl 0 rfl ?_
    refine a_get C0 inX3_read_X3 0 rfl rfl 5 (by decide) lkX3_read_30 (fun _ h9 => h9) (.int (f0_11 5)) rfl dX3_read_62 ?_
    obtain ⟨f3_19, h_20, h⟩ := bd1_e h
    refine a_callVv C0 (wdX3_1 cA q0 q1 q2 q3 q4 q5 f0_11 f1 f2 f3_19 f4_13 f5_14) (As := [.int (5 : Int32), .int (f0_11 5)]) (rest := []) (ctX0_fail l D cA q3 q4 (5 : Int32) (f0_11 5) f3_12 h_20) (cwV 2 C0.1.2.2.2.2 gX3_read_X0_fail rfl rfl rfl hdX0_fail ⟨Nat.le_of_ble_eq_true rfl, Nat.le_of_ble_eq_true rfl⟩) [3] [0, 1, 2, 4, 5] [0, 1, 2, 5, 3, 4] rfl rfl rfl rfl (by decide) rfl rfl rfl rfl rfl rfl (Nat.le_of_ble_eq_true rfl) dX3_read_65 ⟨Nat.zero_le _, Nat.zero_le _⟩ ?_
    obtain rfl := Option.some.inj h
    exact a_vret C0 dX3_read_68 rfl
set_option maxRecDepth 100000 in
theorem ctX3_read (l : Launch) (D : va_G) (cA : ClassId) (q0 q1 q2 q3 q4 q5 : Nat) (N : Nat) (a1 : Int32) (a2 : Int32) (a3 : Int32) (f0 : Nat → Int32) (f1 : Nat → Int32) (f2 : Nat → Int32) (f3 : Nat → Int32) (f4 : Nat → Int32) (f5 : Nat → Int32) {res : (Nat → Int32) × (Nat → Int32) × (Nat → Int32) × (Nat → Int32)} (h : pX3_read N a1 a2 a3 f0 f1 f2 f3 f4 f5 = some res) : Ctv l yX3_read wsX3_read (rmX3_read) D vwCl [(cA, .int)] [.ref q0, .int a1, .int a2, .int a3] (wdX3_1 cA q0 q1 q2 q3 q4 q5 f0 f1 f2 f3 f4 f5) (wdX3_1 cA q0 q1 q2 q3 q4 q5 res.1 f1 f2 res.2.1 res.2.2.1 res.2.2.2) 0 0 :=
  ct_n (S := Unit) (maxL := 4) (cc := cX3_read) (by decide) rfl (Nat.le_of_ble_eq_true rfl) (fun p e s m below meth c _ C0 => bwX3_read C0 N a1 a2 a3 f0 f1 f2 f3 f4 f5 h)
