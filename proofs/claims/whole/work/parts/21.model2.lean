/-! PackDrawerModel.end -/
abbrev wdX7_11 (cA : ClassId) (q0 q1 q2 q3 q4 q5 q6 q7 q8 q9 q10 q11 q12 q13 : Nat) (f0 : Nat → Int32) (l0_31 : Int64) (l0_32 : Int64) (f1 : Nat → Int32) (f2 : Nat → Int32) (f3 : Nat → Int32) (f4 : Nat → Int32) (f5 : Nat → Int32) (f6 : Nat → Int32) (f7 : Nat → Int32) (f8 : Nat → Int32) (f9 : Nat → Int32) (f10 : Nat → Int32) (f11 : Nat → Int32) : va_W := [(q0, .inr (7, [.ref q1, .int (f0 1), .int (f0 2), .ref q2, .ref q3, .ref q4, .ref q5, .ref q6, .ref q7, .ref q8, .int (f0 10), .ref q9, .ref q10, .ref q11, .int (f0 14), .int (f0 15), .int (f0 16), .int (f0 17), .int (f0 18), .int (f0 19), .int (f0 20), .int (f0 21), .int (f0 22), .int (f0 23), .int (f0 24), .int (f0 25), .int (f0 26), .int (f0 27), .int (f0 28), .ref q12, .ref q13, .long l0_31, .long l0_32])), (q1, .inl (cA, 160, .inl f1)), (q2, .inl (cA, 6, .inl f2)), (q3, .inl (cA, 6, .inl f3)), (q4, .inl (cA, 6, .inl f4)), (q5, .inl (cA, 6, .inl f5)), (q6, .inl (cA, 6, .inl f6)), (q7, .inl (cA, 6, .inl f7)), (q8, .inl (cA, 2000, .inl f8)), (q9, .inl (cA, 170, .inl f9)), (q10, .inl (cA, 170, .inl f10)), (q11, .inl (cA, 170, .inl f11))]
abbrev rmX7_end : Room := { frames := 4, cells := 0, slots := 0, locals := 91 }
theorem lkX7_end_57 : Cond.fieldLink RX7 57 RX7 (TX7 16).2.1 (TX7 16).2.2.1 ∈ wsX7_end := by decide +kernel
theorem inX7_end_X7 : ∀ w ∈ u_ws RX7 TX7 33, w ∈ wsX7_end := by decide +kernel
theorem lkX7_end_82 : Cond.fieldLink RX7 82 RX7 (TX7 19).2.1 (TX7 19).2.2.1 ∈ wsX7_end := by decide +kernel
theorem lkX7_end_31 : Cond.fieldLink RX7 31 RX7 (TX7 9).2.1 (TX7 9).2.2.1 ∈ wsX7_end := by decide +kernel
theorem lkX7_end_16 : Cond.fieldLink RX7 16 RX7 (TX7 4).2.1 (TX7 4).2.2.1 ∈ wsX7_end := by decide +kernel
theorem lkX7_end_66 : Cond.fieldLink RX7 66 RX7 (TX7 2).2.1 (TX7 2).2.2.1 ∈ wsX7_end := by decide +kernel
theorem lkX7_end_7 : Cond.fieldLink RX7 7 RX7 (TX7 0).2.1 (TX7 0).2.2.1 ∈ wsX7_end := by decide +kernel
theorem lkX7_end_63 : Cond.fieldLink RX7 63 RX7 (TX7 14).2.1 (TX7 14).2.2.1 ∈ wsX7_end := by decide +kernel
theorem lkX7_end_19 : Cond.fieldLink RX7 19 RX7 (TX7 5).2.1 (TX7 5).2.2.1 ∈ wsX7_end := by decide +kernel
theorem lkX7_end_13 : Cond.fieldLink RX7 13 RX7 (TX7 3).2.1 (TX7 3).2.2.1 ∈ wsX7_end := by decide +kernel
theorem lkX7_end_22 : Cond.fieldLink RX7 22 RX7 (TX7 6).2.1 (TX7 6).2.2.1 ∈ wsX7_end := by decide +kernel
theorem lkX7_end_25 : Cond.fieldLink RX7 25 RX7 (TX7 7).2.1 (TX7 7).2.2.1 ∈ wsX7_end := by decide +kernel
theorem lkX7_end_100 : Cond.fieldLink RX7 100 RX7 (TX7 15).2.1 (TX7 15).2.2.1 ∈ wsX7_end := by decide +kernel
theorem lkX7_end_53 : Cond.fieldLink RX7 53 RX7 (TX7 1).2.1 (TX7 1).2.2.1 ∈ wsX7_end := by decide +kernel
def bfX7_end_249 (N : Nat) (l0_31 : Int64) (l0_32 : Int64) (f1 : Nat → Int32) (f2 : Nat → Int32) (f4 : Nat → Int32) (f5 : Nat → Int32) (f6 : Nat → Int32) (f7 : Nat → Int32) (f9 : Nat → Int32) (f10 : Nat → Int32) (f11 : Nat → Int32) (f0 : Nat → Int32) (f3 : Nat → Int32) (f8 : Nat → Int32) : Option ((Nat → Int32) × (Nat → Int32) × (Nat → Int32)) := bd3 (pX7_done N f0 l0_31 l0_32 f2 f3 f7 f8 f9 f10 f11) (fun f0_1 f3_2 f8_3 => some (f0_1, f3_2, f8_3))
def bfX7_end_232 (N : Nat) (l0_31 : Int64) (l0_32 : Int64) (f1 : Nat → Int32) (f2 : Nat → Int32) (f4 : Nat → Int32) (f5 : Nat → Int32) (f6 : Nat → Int32) (f7 : Nat → Int32) (f9 : Nat → Int32) (f10 : Nat → Int32) (f11 : Nat → Int32) (v3 : Int32) (f0 : Nat → Int32) (f3 : Nat → Int32) (f8 : Nat → Int32) : Option ((Nat → Int32) × (Nat → Int32) × (Nat → Int32)) := if (f0 16) = 0 then lt_ (upd f0 19 ((f0 19) - v3)) (fun f0_6 => bfX7_end_249 N l0_31 l0_32 f1 f2 f4 f5 f6 f7 f9 f10 f11 f0_6 f3 f8) else bfX7_end_249 N l0_31 l0_32 f1 f2 f4 f5 f6 f7 f9 f10 f11 f0 f3 f8
def bFX7_end_196 (N : Nat) (l0_31 : Int64) (l0_32 : Int64) (f1 : Nat → Int32) (f2 : Nat → Int32) (f4 : Nat → Int32) (f5 : Nat → Int32) (f6 : Nat → Int32) (f7 : Nat → Int32) (f9 : Nat → Int32) (f10 : Nat → Int32) (f11 : Nat → Int32) (rc196 : Int32 → Int32 → Int32 → Int32 → (Nat → Int32) → (Nat → Int32) → (Nat → Int32) → Option ((Nat → Int32) × (Nat → Int32) × (Nat → Int32))) (v2 : Int32) (v3 : Int32) (v4 : Int32) (v5 : Int32) (f0 : Nat → Int32) (f3 : Nat → Int32) (f8 : Nat → Int32) : Option ((Nat → Int32) × (Nat → Int32) × (Nat → Int32)) := if v3 ≤ v5 then bfX7_end_232 N l0_31 l0_32 f1 f2 f4 f5 f6 f7 f9 f10 f11 v3 f0 f3 f8 else if (f0 16) = 0 then gi_ (v2 + v5) 2000 (bd4 (pX7_give (f8 (v2 + v5).toNatClampNeg) v4 f0 l0_31 l0_32 f2 f3 f8) (fun r_10 f0_11 f3_12 f8_13 => lt_ ((v5 + (1 : Int32))) (fun x_15 => rc196 v2 v3 v4 x_15 f0_11 f3_12 f8_13))) else bfX7_end_232 N l0_31 l0_32 f1 f2 f4 f5 f6 f7 f9 f10 f11 v3 f0 f3 f8
def bfX7_end_196 (N : Nat) (l0_31 : Int64) (l0_32 : Int64) (f1 : Nat → Int32) (f2 : Nat → Int32) (f4 : Nat → Int32) (f5 : Nat → Int32) (f6 : Nat → Int32) (f7 : Nat → Int32) (f9 : Nat → Int32) (f10 : Nat → Int32) (f11 : Nat → Int32) : Nat → Int32 → Int32 → Int32 → Int32 → (Nat → Int32) → (Nat → Int32) → (Nat → Int32) → Option ((Nat → Int32) × (Nat → Int32) × (Nat → Int32))
  | 0 => fun _ _ _ _ _ _ _ => none
  | n + 1 => bFX7_end_196 N l0_31 l0_32 f1 f2 f4 f5 f6 f7 f9 f10 f11  (bfX7_end_196 N l0_31 l0_32 f1 f2 f4 f5 f6 f7 f9 f10 f11  n)
def bFX7_end_13 (N : Nat) (l0_31 : Int64) (l0_32 : Int64) (f1 : Nat → Int32) (f2 : Nat → Int32) (f4 : Nat → Int32) (f5 : Nat → Int32) (f6 : Nat → Int32) (f7 : Nat → Int32) (f9 : Nat → Int32) (f10 : Nat → Int32) (f11 : Nat → Int32) (rc13 : Int32 → Int32 → (Nat → Int32) → (Nat → Int32) → (Nat → Int32) → Option ((Nat → Int32) × (Nat → Int32) × (Nat → Int32))) (v1 : Int32) (v2 : Int32) (f0 : Nat → Int32) (f3 : Nat → Int32) (f8 : Nat → Int32) : Option ((Nat → Int32) × (Nat → Int32) × (Nat → Int32)) := gi_ (f0 2) 6 (if (f3 (f0 2).toNatClampNeg) ≤ v2 then gi_ (f0 14) 160 (if (v1 &&& (255 : Int32)) = (f1 (f0 14).toNatClampNeg) then lt_ (upd f0 14 ((f0 14) + (1 : Int32))) (fun f0_20 => if (f0_20 2) = 0 then lt_ (upd f0_20 15 (1 : Int32)) (fun f0_34 => if (f0_34 1) ≤ (f0_34 14) then some (f0_34, f3, f8) else bd1 (pX7_fault (5 : Int32) (f0_34 14) f0_34 l0_31 l0_32) (fun f0_36 => some (f0_36, f3, f8))) else gi_ (f0_20 2) 6 (if (f4 (f0_20 2).toNatClampNeg) ≤ (f0_20 14) then gi_ (f0_20 2) 6 (lt_ ((f2 (f0_20 2).toNatClampNeg)) (fun x_25 => gi_ (f0_20 2) 6 (lt_ ((f3 (f0_20 2).toNatClampNeg)) (fun x_27 => gi_ (f0_20 2) 6 (lt_ ((f5 (f0_20 2).toNatClampNeg)) (fun x_29 => lt_ (upd f0_20 2 ((f0_20 2) - (1 : Int32))) (fun f0_30 => bfX7_end_196 N l0_31 l0_32 f1 f2 f4 f5 f6 f7 f9 f10 f11 N x_25 x_27 x_29 (0 : Int32) f0_30 f3 f8))))))) else gi_ (f0_20 2) 6 (bd1 (pX7_fault (2 : Int32) (f6 (f0_20 2).toNatClampNeg) f0_20 l0_31 l0_32) (fun f0_32 => some (f0_32, f3, f8))))) else bd1 (pX7_fault (4 : Int32) (f0 14) f0 l0_31 l0_32) (fun f0_38 => some (f0_38, f3, f8))) else gi_ (f0 2) 6 (gi_ ((f2 (f0 2).toNatClampNeg) + v2) 2000 (lt_ ((v1 + (f8 ((f2 (f0 2).toNatClampNeg) + v2).toNatClampNeg))) (fun x_42 => lt_ ((v2 + (1 : Int32))) (fun x_43 => rc13 x_42 x_43 f0 f3 f8)))))
def bfX7_end_13 (N : Nat) (l0_31 : Int64) (l0_32 : Int64) (f1 : Nat → Int32) (f2 : Nat → Int32) (f4 : Nat → Int32) (f5 : Nat → Int32) (f6 : Nat → Int32) (f7 : Nat → Int32) (f9 : Nat → Int32) (f10 : Nat → Int32) (f11 : Nat → Int32) : Nat → Int32 → Int32 → (Nat → Int32) → (Nat → Int32) → (Nat → Int32) → Option ((Nat → Int32) × (Nat → Int32) × (Nat → Int32))
  | 0 => fun _ _ _ _ _ => none
  | n + 1 => bFX7_end_13 N l0_31 l0_32 f1 f2 f4 f5 f6 f7 f9 f10 f11  (bfX7_end_13 N l0_31 l0_32 f1 f2 f4 f5 f6 f7 f9 f10 f11  n)
def pX7_end (N : Nat) (f0 : Nat → Int32) (l0_31 : Int64) (l0_32 : Int64) (f1 : Nat → Int32) (f2 : Nat → Int32) (f3 : Nat → Int32) (f4 : Nat → Int32) (f5 : Nat → Int32) (f6 : Nat → Int32) (f7 : Nat → Int32) (f8 : Nat → Int32) (f9 : Nat → Int32) (f10 : Nat → Int32) (f11 : Nat → Int32) : Option ((Nat → Int32) × (Nat → Int32) × (Nat → Int32)) := bd2 (pX7_has (1 : Int32) f0 l0_31 l0_32 f4 f6) (fun r_44 f0_45 => if r_44 = 0 then some (f0_45, f3, f8) else bfX7_end_13 N l0_31 l0_32 f1 f2 f4 f5 f6 f7 f9 f10 f11 N (0 : Int32) (0 : Int32) f0_45 f3 f8)
set_option maxHeartbeats 4000000 in
set_option maxRecDepth 100000 in
theorem bwX7_end_249 {p : Program} {l : Launch} {e : Env} {s : State} {m : MethodId} {args : Array Value} {below : List Frame} {meth : Method} {c : Code} {D : va_G} {A : Nat → Prop} {cA : ClassId} {q0 q1 q2 q3 q4 q5 q6 q7 q8 q9 q10 q11 q12 q13 : Nat} {res : (Nat → Int32) × (Nat → Int32) × (Nat → Int32)} (C0 : cx p s m args meth c cX7_end 7 RX7 wsX7_end none D vwCl [(cA, .int)] A) (N : Nat) (l0_31 : Int64) (l0_32 : Int64) (f1 : Nat → Int32) (f2 : Nat → Int32) (f4 : Nat → Int32) (f5 : Nat → Int32) (f6 : Nat → Int32) (f7 : Nat → Int32) (f9 : Nat → Int32) (f10 : Nat → Int32) (f11 : Nat → Int32) (f0 : Nat → Int32) (f3 : Nat → Int32) (f8 : Nat → Int32) (h : bfX7_end_249 N l0_31 l0_32 f1 f2 f4 f5 f6 f7 f9 f10 f11  f0 f3 f8 = some res) : At_ p l e (rmX7_end) s m args below meth c D vwCl A 7 0 0 (Qv_ below args s D vwCl A (wdX7_11 cA q0 q1 q2 q3 q4 q5 q6 q7 q8 q9 q10 q11 q12 q13 res.1 l0_31 l0_32 f1 f2 res.2.1 f4 f5 f6 f7 res.2.2 f9 f10 f11)) 249 [(0, .ref q0)] [] (wdX7_11 cA q0 q1 q2 q3 q4 q5 q6 q7 q8 q9 q10 q11 q12 q13 f0 l0_31 l0_32 f1 f2 f3 f4 f5 f6 f7 f8 f9 f10 f11) := by
  unfold bfX7_end_249 at h
  refine a_aload_n C0 dX7_end_249 rfl 0 rfl ?_
  obtain ⟨f0_1, f3_2, f8_3, h_4, h⟩ := bd3_e h
  refine a_callVv C0 (wdX7_11 cA q0 q1 q2 q3 q4 q5 q6 q7 q8 q9 q10 q11 q12 q13 f0_1 l0_31 l0_32 f1 f2 f3_2 f4 f5 f6 f7 f8_3 f9 f10 f11) (As := []) (rest := []) (ctX7_done l D cA q0 q1 q2 q3 q4 q5 q6 q7 q8 q9 q10 q11 q12 q13 N f0 l0_31 l0_32 f2 f3 f7 f8 f9 f10 f11 h_4) (cwV 0 C0.1.2.2.2.2 gX7_end_X7_done rfl rfl rfl hdX7_done ⟨Nat.le_of_ble_eq_true rfl, Nat.le_of_ble_eq_true rfl⟩) [0, 2, 3, 7, 8, 9, 10, 11] [1, 4, 5, 6] [4, 0, 5, 6, 1, 2, 3, 7, 8, 9, 10, 11] rfl rfl rfl rfl (by decide) rfl rfl rfl rfl rfl rfl (Nat.le_of_ble_eq_true rfl) dX7_end_250 ⟨Nat.zero_le _, Nat.zero_le _⟩ ?_
  obtain rfl := Option.some.inj h
  exact a_vret C0 dX7_end_253 rfl
set_option maxHeartbeats 4000000 in
set_option maxRecDepth 100000 in
theorem bwX7_end_232 {p : Program} {l : Launch} {e : Env} {s : State} {m : MethodId} {args : Array Value} {below : List Frame} {meth : Method} {c : Code} {D : va_G} {A : Nat → Prop} {cA : ClassId} {q0 q1 q2 q3 q4 q5 q6 q7 q8 q9 q10 q11 q12 q13 : Nat} {res : (Nat → Int32) × (Nat → Int32) × (Nat → Int32)} (C0 : cx p s m args meth c cX7_end 7 RX7 wsX7_end none D vwCl [(cA, .int)] A) (N : Nat) (l0_31 : Int64) (l0_32 : Int64) (f1 : Nat → Int32) (f2 : Nat → Int32) (f4 : Nat → Int32) (f5 : Nat → Int32) (f6 : Nat → Int32) (f7 : Nat → Int32) (f9 : Nat → Int32) (f10 : Nat → Int32) (f11 : Nat → Int32) (v3 : Int32) (f0 : Nat → Int32) (f3 : Nat → Int32) (f8 : Nat → Int32) (h : bfX7_end_232 N l0_31 l0_32 f1 f2 f4 f5 f6 f7 f9 f10 f11  v3 f0 f3 f8 = some res) : At_ p l e (rmX7_end) s m args below meth c D vwCl A 7 0 0 (Qv_ below args s D vwCl A (wdX7_11 cA q0 q1 q2 q3 q4 q5 q6 q7 q8 q9 q10 q11 q12 q13 res.1 l0_31 l0_32 f1 f2 res.2.1 f4 f5 f6 f7 res.2.2 f9 f10 f11)) 232 [(0, .ref q0), (3, .int v3)] [] (wdX7_11 cA q0 q1 q2 q3 q4 q5 q6 q7 q8 q9 q10 q11 q12 q13 f0 l0_31 l0_32 f1 f2 f3 f4 f5 f6 f7 f8 f9 f10 f11) := by
  unfold bfX7_end_232 at h
  refine a_aload_n C0 dX7_end_232 rfl 0 rfl ?_
  refine a_get C0 inX7_end_X7 0 rfl rfl 16 (by decide) lkX7_end_57 (fun _ h9 => h9) (.int (f0 16)) rfl dX7_end_233 ?_
  refine a_if_ne C0 249 dX7_end_236 (by decide) (fun c_5 => ?_) (fun c_5 => ?_)
  · have h := ie_ c_5 h
    refine a_lv [0] (lv' := [(0, .ref q0)]) rfl ?_
    exact bwX7_end_249 C0 N l0_31 l0_32 f1 f2 f4 f5 f6 f7 f9 f10 f11 f0 f3 f8 h
  · have h := it_ c_5 h
    refine a_aload_n C0 dX7_end_239 rfl 0 rfl ?_
    refine a_dup C0 dX7_end_240 rfl ?_
    refine a_get C0 inX7_end_X7 0 rfl rfl 19 (by decide) lkX7_end_82 (fun _ h9 => h9) (.int (f0 19)) rfl dX7_end_241 ?_
    refine a_iload_n C0 dX7_end_244 rfl 1 rfl ?_
    refine a_isub C0 dX7_end_245 ?_
    obtain ⟨f0_6, ef0_6, h⟩ := lt_e h
    refine a_put C0 inX7_end_X7 tyX7 tyX7_ok nmX7 0 rfl rfl 19 (by decide) lkX7_end_82 (fun _ h9 => h9) rfl (ty := .int) (v := .int ((f0 19) - v3)) (by decide +kernel) rfl rfl (Nat.le_of_ble_eq_true rfl) dX7_end_246 (wdX7_11 cA q0 q1 q2 q3 q4 q5 q6 q7 q8 q9 q10 q11 q12 q13 f0_6 l0_31 l0_32 f1 f2 f3 f4 f5 f6 f7 f8 f9 f10 f11) (by subst ef0_6; rfl) ?_
    refine a_lv [0] (lv' := [(0, .ref q0)]) rfl ?_
    exact bwX7_end_249 C0 N l0_31 l0_32 f1 f2 f4 f5 f6 f7 f9 f10 f11 f0_6 f3 f8 h
set_option maxHeartbeats 4000000 in
set_option maxRecDepth 100000 in
theorem bwX7_end_196 {p : Program} {l : Launch} {e : Env} {s : State} {m : MethodId} {args : Array Value} {below : List Frame} {meth : Method} {c : Code} {D : va_G} {A : Nat → Prop} {cA : ClassId} {q0 q1 q2 q3 q4 q5 q6 q7 q8 q9 q10 q11 q12 q13 : Nat} {res : (Nat → Int32) × (Nat → Int32) × (Nat → Int32)} (C0 : cx p s m args meth c cX7_end 7 RX7 wsX7_end none D vwCl [(cA, .int)] A) (N : Nat) (l0_31 : Int64) (l0_32 : Int64) (f1 : Nat → Int32) (f2 : Nat → Int32) (f4 : Nat → Int32) (f5 : Nat → Int32) (f6 : Nat → Int32) (f7 : Nat → Int32) (f9 : Nat → Int32) (f10 : Nat → Int32) (f11 : Nat → Int32) : ∀ (n : Nat) (v2 : Int32) (v3 : Int32) (v4 : Int32) (v5 : Int32) (f0 : Nat → Int32) (f3 : Nat → Int32) (f8 : Nat → Int32), bfX7_end_196 N l0_31 l0_32 f1 f2 f4 f5 f6 f7 f9 f10 f11  n v2 v3 v4 v5 f0 f3 f8 = some res → At_ p l e (rmX7_end) s m args below meth c D vwCl A 7 0 0 (Qv_ below args s D vwCl A (wdX7_11 cA q0 q1 q2 q3 q4 q5 q6 q7 q8 q9 q10 q11 q12 q13 res.1 l0_31 l0_32 f1 f2 res.2.1 f4 f5 f6 f7 res.2.2 f9 f10 f11)) 196 [(0, .ref q0), (2, .int v2), (3, .int v3), (4, .int v4), (5, .int v5)] [] (wdX7_11 cA q0 q1 q2 q3 q4 q5 q6 q7 q8 q9 q10 q11 q12 q13 f0 l0_31 l0_32 f1 f2 f3 f4 f5 f6 f7 f8 f9 f10 f11) := by
  intro n
  induction n with
  | zero => intro v2 v3 v4 v5 f0 f3 f8 h; cases h
  | succ n hrc196 =>
    intro v2 v3 v4 v5 f0 f3 f8 h
    replace h : bFX7_end_196 N l0_31 l0_32 f1 f2 f4 f5 f6 f7 f9 f10 f11  (bfX7_end_196 N l0_31 l0_32 f1 f2 f4 f5 f6 f7 f9 f10 f11  n) v2 v3 v4 v5 f0 f3 f8 = some res := h
    generalize bfX7_end_196 N l0_31 l0_32 f1 f2 f4 f5 f6 f7 f9 f10 f11  n = rc196 at h hrc196
    unfold bFX7_end_196 at h
    refine a_iload C0 dX7_end_196 4 rfl ?_
    refine a_iload_n C0 dX7_end_198 rfl 2 rfl ?_
    refine a_icmp_ge C0 232 dX7_end_199 (by decide) (fun c_7 => ?_) (fun c_7 => ?_)
    · have h := it_ c_7 h
      refine a_lv [0, 2] (lv' := [(0, .ref q0), (3, .int v3)]) rfl ?_
      exact bwX7_end_232 C0 N l0_31 l0_32 f1 f2 f4 f5 f6 f7 f9 f10 f11 v3 f0 f3 f8 h
    · have h := ie_ c_7 h
      refine a_aload_n C0 dX7_end_202 rfl 0 rfl ?_
      refine a_get C0 inX7_end_X7 0 rfl rfl 16 (by decide) lkX7_end_57 (fun _ h9 => h9) (.int (f0 16)) rfl dX7_end_203 ?_
      refine a_if_ne C0 232 dX7_end_206 (by decide) (fun c_8 => ?_) (fun c_8 => ?_)
      · have h := ie_ c_8 h
        refine a_lv [0, 2] (lv' := [(0, .ref q0), (3, .int v3)]) rfl ?_
        exact bwX7_end_232 C0 N l0_31 l0_32 f1 f2 f4 f5 f6 f7 f9 f10 f11 v3 f0 f3 f8 h
      · have h := it_ c_8 h
        refine a_aload_n C0 dX7_end_209 rfl 0 rfl ?_
        refine a_aload_n C0 dX7_end_210 rfl 0 rfl ?_
        refine a_get C0 inX7_end_X7 0 rfl rfl 9 (by decide) lkX7_end_31 (fun _ h9 => h9) (.ref q8) rfl dX7_end_211 ?_
        refine a_iload_n C0 dX7_end_214 rfl 1 rfl ?_
        refine a_iload C0 dX7_end_215 4 rfl ?_
        refine a_iadd C0 dX7_end_217 ?_
        obtain ⟨g_9, h⟩ := gi_e h
        refine a_iald C0 8 0 rfl rfl g_9 dX7_end_218 ?_
        refine a_iload C0 dX7_end_219 3 rfl ?_
        obtain ⟨r_10, f0_11, f3_12, f8_13, h_14, h⟩ := bd4_e h
        refine a_callVi C0 (wdX7_11 cA q0 q1 q2 q3 q4 q5 q6 q7 q8 q9 q10 q11 q12 q13 f0_11 l0_31 l0_32 f1 f2 f3_12 f4 f5 f6 f7 f8_13 f9 f10 f11) (As := [.int (f8 (v2 + v5).toNatClampNeg), .int v4]) (rest := []) (ctX7_give l D cA q0 q1 q2 q3 q4 q5 q6 q7 q8 q9 q10 q11 q12 q13 (f8 (v2 + v5).toNatClampNeg) v4 f0 l0_31 l0_32 f2 f3 f8 h_14) (cwV 2 C0.1.2.2.2.2 gX7_end_X7_give rfl rfl rfl hdX7_give ⟨Nat.le_of_ble_eq_true rfl, Nat.le_of_ble_eq_true rfl⟩) [0, 2, 3, 8] [1, 4, 5, 6, 7, 9, 10, 11] [8, 0, 9, 10, 1, 2, 3, 4, 11, 5, 6, 7] rfl rfl rfl rfl (by decide) rfl rfl rfl rfl rfl rfl (Nat.le_of_ble_eq_true rfl) dX7_end_221 ⟨Nat.zero_le _, Nat.zero_le _⟩ ?_
        refine a_istore C0 [(6, .int r_10), (0, .ref q0), (2, .int v2), (3, .int v3), (4, .int v4), (5, .int v5)] dX7_end_224 (by decide) rfl ?_
        obtain ⟨x_15, ex_15, h⟩ := lt_e h
        refine a_iinc C0 x_15 [(5, .int x_15), (6, .int r_10), (0, .ref q0), (2, .int v2), (3, .int v3), (4, .int v4)] dX7_end_226 5 rfl (by subst ex_15; rfl) (by decide) rfl ?_
        refine a_goto C0 196 dX7_end_229 (by decide) ?_
        refine a_lv [2, 3, 4, 5, 0] (lv' := [(0, .ref q0), (2, .int v2), (3, .int v3), (4, .int v4), (5, .int x_15)]) rfl ?_
        exact hrc196 v2 v3 v4 x_15 f0_11 f3_12 f8_13 h
set_option maxHeartbeats 4000000 in
set_option maxRecDepth 100000 in
theorem bwX7_end_13 {p : Program} {l : Launch} {e : Env} {s : State} {m : MethodId} {args : Array Value} {below : List Frame} {meth : Method} {c : Code} {D : va_G} {A : Nat → Prop} {cA : ClassId} {q0 q1 q2 q3 q4 q5 q6 q7 q8 q9 q10 q11 q12 q13 : Nat} {res : (Nat → Int32) × (Nat → Int32) × (Nat → Int32)} (C0 : cx p s m args meth c cX7_end 7 RX7 wsX7_end none D vwCl [(cA, .int)] A) (N : Nat) (l0_31 : Int64) (l0_32 : Int64) (f1 : Nat → Int32) (f2 : Nat → Int32) (f4 : Nat → Int32) (f5 : Nat → Int32) (f6 : Nat → Int32) (f7 : Nat → Int32) (f9 : Nat → Int32) (f10 : Nat → Int32) (f11 : Nat → Int32) : ∀ (n : Nat) (v1 : Int32) (v2 : Int32) (f0 : Nat → Int32) (f3 : Nat → Int32) (f8 : Nat → Int32), bfX7_end_13 N l0_31 l0_32 f1 f2 f4 f5 f6 f7 f9 f10 f11  n v1 v2 f0 f3 f8 = some res → At_ p l e (rmX7_end) s m args below meth c D vwCl A 7 0 0 (Qv_ below args s D vwCl A (wdX7_11 cA q0 q1 q2 q3 q4 q5 q6 q7 q8 q9 q10 q11 q12 q13 res.1 l0_31 l0_32 f1 f2 res.2.1 f4 f5 f6 f7 res.2.2 f9 f10 f11)) 13 [(0, .ref q0), (1, .int v1), (2, .int v2)] [] (wdX7_11 cA q0 q1 q2 q3 q4 q5 q6 q7 q8 q9 q10 q11 q12 q13 f0 l0_31 l0_32 f1 f2 f3 f4 f5 f6 f7 f8 f9 f10 f11) := by
  intro n
  induction n with
  | zero => intro v1 v2 f0 f3 f8 h; cases h
  | succ n hrc13 =>
    intro v1 v2 f0 f3 f8 h
    replace h : bFX7_end_13 N l0_31 l0_32 f1 f2 f4 f5 f6 f7 f9 f10 f11  (bfX7_end_13 N l0_31 l0_32 f1 f2 f4 f5 f6 f7 f9 f10 f11  n) v1 v2 f0 f3 f8 = some res := h
    generalize bfX7_end_13 N l0_31 l0_32 f1 f2 f4 f5 f6 f7 f9 f10 f11  n = rc13 at h hrc13
    unfold bFX7_end_13 at h
    refine a_iload_n C0 dX7_end_13 rfl 2 rfl ?_
    refine a_aload_n C0 dX7_end_14 rfl 0 rfl ?_
    refine a_get C0 inX7_end_X7 0 rfl rfl 4 (by decide) lkX7_end_16 (fun _ h9 => h9) (.ref q3) rfl dX7_end_15 ?_
    refine a_aload_n C0 dX7_end_18 rfl 0 rfl ?_
    refine a_get C0 inX7_end_X7 0 rfl rfl 2 (by decide) lkX7_end_66 (fun _ h9 => h9) (.int (f0 2)) rfl dX7_end_19 ?_
    obtain ⟨g_16, h⟩ := gi_e h
    refine a_iald C0 3 0 rfl rfl g_16 dX7_end_22 ?_
    refine a_icmp_ge C0 51 dX7_end_23 (by decide) (fun c_17 => ?_) (fun c_17 => ?_)
    · have h := it_ c_17 h
      refine a_iload_n C0 dX7_end_51 rfl 1 rfl ?_
      refine a_sipush C0 (255 : Int32) dX7_end_52 (by decide) ?_
      refine a_iand C0 dX7_end_55 ?_
      refine a_aload_n C0 dX7_end_56 rfl 0 rfl ?_
      refine a_get C0 inX7_end_X7 0 rfl rfl 0 (by decide) lkX7_end_7 (fun _ h9 => h9) (.ref q1) rfl dX7_end_57 ?_
      refine a_aload_n C0 dX7_end_60 rfl 0 rfl ?_
      refine a_get C0 inX7_end_X7 0 rfl rfl 14 (by decide) lkX7_end_63 (fun _ h9 => h9) (.int (f0 14)) rfl dX7_end_61 ?_
      obtain ⟨g_18, h⟩ := gi_e h
      refine a_iald C0 1 0 rfl rfl g_18 dX7_end_64 ?_
      refine a_icmp_eq C0 78 dX7_end_65 (by decide) (fun c_19 => ?_) (fun c_19 => ?_)
      · have h := it_ c_19 h
        refine a_aload_n C0 dX7_end_78 rfl 0 rfl ?_
        refine a_dup C0 dX7_end_79 rfl ?_
        refine a_get C0 inX7_end_X7 0 rfl rfl 14 (by decide) lkX7_end_63 (fun _ h9 => h9) (.int (f0 14)) rfl dX7_end_80 ?_
        refine a_iconst C0 (1 : Int32) dX7_end_83 (by decide) ?_
        refine a_iadd C0 dX7_end_84 ?_
        obtain ⟨f0_20, ef0_20, h⟩ := lt_e h
        refine a_put C0 inX7_end_X7 tyX7 tyX7_ok nmX7 0 rfl rfl 14 (by decide) lkX7_end_63 (fun _ h9 => h9) rfl (ty := .int) (v := .int ((f0 14) + (1 : Int32))) (by decide +kernel) rfl rfl (Nat.le_of_ble_eq_true rfl) dX7_end_85 (wdX7_11 cA q0 q1 q2 q3 q4 q5 q6 q7 q8 q9 q10 q11 q12 q13 f0_20 l0_31 l0_32 f1 f2 f3 f4 f5 f6 f7 f8 f9 f10 f11) (by subst ef0_20; rfl) ?_
        refine a_aload_n C0 dX7_end_88 rfl 0 rfl ?_
        refine a_get C0 inX7_end_X7 0 rfl rfl 2 (by decide) lkX7_end_66 (fun _ h9 => h9) (.int (f0_20 2)) rfl dX7_end_89 ?_
        refine a_if_ne C0 121 dX7_end_92 (by decide) (fun c_21 => ?_) (fun c_21 => ?_)
        · have h := ie_ c_21 h
          refine a_aload_n C0 dX7_end_121 rfl 0 rfl ?_
          refine a_get C0 inX7_end_X7 0 rfl rfl 14 (by decide) lkX7_end_63 (fun _ h9 => h9) (.int (f0_20 14)) rfl dX7_end_122 ?_
          refine a_aload_n C0 dX7_end_125 rfl 0 rfl ?_
          refine a_get C0 inX7_end_X7 0 rfl rfl 5 (by decide) lkX7_end_19 (fun _ h9 => h9) (.ref q4) rfl dX7_end_126 ?_
          refine a_aload_n C0 dX7_end_129 rfl 0 rfl ?_
          refine a_get C0 inX7_end_X7 0 rfl rfl 2 (by decide) lkX7_end_66 (fun _ h9 => h9) (.int (f0_20 2)) rfl dX7_end_130 ?_
          obtain ⟨g_22, h⟩ := gi_e h
          refine a_iald C0 4 0 rfl rfl g_22 dX7_end_133 ?_
          refine a_icmp_ge C0 152 dX7_end_134 (by decide) (fun c_23 => ?_) (fun c_23 => ?_)
          · have h := it_ c_23 h
            refine a_aload_n C0 dX7_end_152 rfl 0 rfl ?_
            refine a_get C0 inX7_end_X7 0 rfl rfl 3 (by decide) lkX7_end_13 (fun _ h9 => h9) (.ref q2) rfl dX7_end_153 ?_
            refine a_aload_n C0 dX7_end_156 rfl 0 rfl ?_
            refine a_get C0 inX7_end_X7 0 rfl rfl 2 (by decide) lkX7_end_66 (fun _ h9 => h9) (.int (f0_20 2)) rfl dX7_end_157 ?_
            obtain ⟨g_24, h⟩ := gi_e h
            refine a_iald C0 2 0 rfl rfl g_24 dX7_end_160 ?_
            obtain ⟨x_25, ex_25, h⟩ := lt_e h
            refine a_topi ex_25 ?_
            refine a_istore_n C0 [(2, .int x_25), (0, .ref q0), (1, .int v1)] dX7_end_161 rfl (by decide) rfl ?_
            refine a_aload_n C0 dX7_end_162 rfl 1 rfl ?_
            refine a_get C0 inX7_end_X7 0 rfl rfl 4 (by decide) lkX7_end_16 (fun _ h9 => h9) (.ref q3) rfl dX7_end_163 ?_
            refine a_aload_n C0 dX7_end_166 rfl 1 rfl ?_
            refine a_get C0 inX7_end_X7 0 rfl rfl 2 (by decide) lkX7_end_66 (fun _ h9 => h9) (.int (f0_20 2)) rfl dX7_end_167 ?_
            obtain ⟨g_26, h⟩ := gi_e h
            refine a_iald C0 3 0 rfl rfl g_26 dX7_end_170 ?_
            obtain ⟨x_27, ex_27, h⟩ := lt_e h
            refine a_topi ex_27 ?_
            refine a_istore_n C0 [(3, .int x_27), (2, .int x_25), (0, .ref q0), (1, .int v1)] dX7_end_171 rfl (by decide) rfl ?_
            refine a_aload_n C0 dX7_end_172 rfl 2 rfl ?_
            refine a_get C0 inX7_end_X7 0 rfl rfl 6 (by decide) lkX7_end_22 (fun _ h9 => h9) (.ref q5) rfl dX7_end_173 ?_
            refine a_aload_n C0 dX7_end_176 rfl 2 rfl ?_
            refine a_get C0 inX7_end_X7 0 rfl rfl 2 (by decide) lkX7_end_66 (fun _ h9 => h9) (.int (f0_20 2)) rfl dX7_end_177 ?_
            obtain ⟨g_28, h⟩ := gi_e h
            refine a_iald C0 5 0 rfl rfl g_28 dX7_end_180 ?_
            obtain ⟨x_29, ex_29, h⟩ := lt_e h
            refine a_topi ex_29 ?_
            refine a_istore C0 [(4, .int x_29), (3, .int x_27), (2, .int x_25), (0, .ref q0), (1, .int v1)] dX7_end_181 (by decide) rfl ?_
            refine a_aload_n C0 dX7_end_183 rfl 3 rfl ?_
            refine a_dup C0 dX7_end_184 rfl ?_
            refine a_get C0 inX7_end_X7 0 rfl rfl 2 (by decide) lkX7_end_66 (fun _ h9 => h9) (.int (f0_20 2)) rfl dX7_end_185 ?_
            refine a_iconst C0 (1 : Int32) dX7_end_188 (by decide) ?_
            refine a_isub C0 dX7_end_189 ?_
            obtain ⟨f0_30, ef0_30, h⟩ := lt_e h
            refine a_put C0 inX7_end_X7 tyX7 tyX7_ok nmX7 0 rfl rfl 2 (by decide) lkX7_end_66 (fun _ h9 => h9) rfl (ty := .int) (v := .int ((f0_20 2) - (1 : Int32))) (by decide +kernel) rfl rfl (Nat.le_of_ble_eq_true rfl) dX7_end_190 (wdX7_11 cA q0 q1 q2 q3 q4 q5 q6 q7 q8 q9 q10 q11 q12 q13 f0_30 l0_31 l0_32 f1 f2 f3 f4 f5 f6 f7 f8 f9 f10 f11) (by subst ef0_30; rfl) ?_
            refine a_iconst C0 (0 : Int32) dX7_end_193 (by decide) ?_
            refine a_istore C0 [(5, .int (0 : Int32)), (4, .int x_29), (3, .int x_27), (2, .int x_25), (0, .ref q0), (1, .int v1)] dX7_end_194 (by decide) rfl ?_
            refine a_lv [4, 3, 2, 1, 0] (lv' := [(0, .ref q0), (2, .int x_25), (3, .int x_27), (4, .int x_29), (5, .int (0 : Int32))]) rfl ?_
            exact bwX7_end_196 C0 N l0_31 l0_32 f1 f2 f4 f5 f6 f7 f9 f10 f11 N x_25 x_27 x_29 (0 : Int32) f0_30 f3 f8 h
          · have h := ie_ c_23 h
            refine a_aload_n C0 dX7_end_137 rfl 0 rfl ?_
            refine a_iconst C0 (2 : Int32) dX7_end_138 (by decide) ?_
            refine a_aload_n C0 dX7_end_139 rfl 0 rfl ?_
            refine a_get C0 inX7_end_X7 0 rfl rfl 7 (by decide) lkX7_end_25 (fun _ h9 => h9) (.ref q6) rfl dX7_end_140 ?_
            refine a_aload_n C0 dX7_end_143 rfl 0 rfl ?_
            refine a_get C0 inX7_end_X7 0 rfl rfl 2 (by decide) lkX7_end_66 (fun _ h9 => h9) (.int (f0_20 2)) rfl dX7_end_144 ?_
            obtain ⟨g_31, h⟩ := gi_e h
            refine a_iald C0 6 0 rfl rfl g_31 dX7_end_147 ?_
            obtain ⟨f0_32, h_33, h⟩ := bd1_e h
            refine a_callVv C0 (wdX7_11 cA q0 q1 q2 q3 q4 q5 q6 q7 q8 q9 q10 q11 q12 q13 f0_32 l0_31 l0_32 f1 f2 f3 f4 f5 f6 f7 f8 f9 f10 f11) (As := [.int (2 : Int32), .int (f6 (f0_20 2).toNatClampNeg)]) (rest := []) (ctX7_fault l D cA q0 q1 q2 q3 q4 q5 q6 q7 q8 q9 q10 q11 q12 q13 (2 : Int32) (f6 (f0_20 2).toNatClampNeg) f0_20 l0_31 l0_32 h_33) (cwV 2 C0.1.2.2.2.2 gX7_end_X7_fault rfl rfl rfl hdX7_fault ⟨Nat.le_of_ble_eq_true rfl, Nat.le_of_ble_eq_true rfl⟩) [0] [1, 2, 3, 4, 5, 6, 7, 8, 9, 10, 11] [11, 0, 1, 2, 3, 4, 5, 6, 7, 8, 9, 10] rfl rfl rfl rfl (by decide) rfl rfl rfl rfl rfl rfl (Nat.le_of_ble_eq_true rfl) dX7_end_148 ⟨Nat.zero_le _, Nat.zero_le _⟩ ?_
            obtain rfl := Option.some.inj h
            exact a_vret C0 dX7_end_151 rfl
        · have h := it_ c_21 h
          refine a_aload_n C0 dX7_end_95 rfl 0 rfl ?_
          refine a_iconst C0 (1 : Int32) dX7_end_96 (by decide) ?_
          obtain ⟨f0_34, ef0_34, h⟩ := lt_e h
          refine a_put C0 inX7_end_X7 tyX7 tyX7_ok nmX7 0 rfl rfl 15 (by decide) lkX7_end_100 (fun _ h9 => h9) rfl (ty := .boolean) (v := .int (1 : Int32)) (by decide +kernel) rfl rfl (Nat.le_of_ble_eq_true rfl) dX7_end_97 (wdX7_11 cA q0 q1 q2 q3 q4 q5 q6 q7 q8 q9 q10 q11 q12 q13 f0_34 l0_31 l0_32 f1 f2 f3 f4 f5 f6 f7 f8 f9 f10 f11) (by subst ef0_34; rfl) ?_
          refine a_aload_n C0 dX7_end_100 rfl 0 rfl ?_
          refine a_get C0 inX7_end_X7 0 rfl rfl 14 (by decide) lkX7_end_63 (fun _ h9 => h9) (.int (f0_34 14)) rfl dX7_end_101 ?_
          refine a_aload_n C0 dX7_end_104 rfl 0 rfl ?_
          refine a_get C0 inX7_end_X7 0 rfl rfl 1 (by decide) lkX7_end_53 (fun _ h9 => h9) (.int (f0_34 1)) rfl dX7_end_105 ?_
          refine a_icmp_ge C0 120 dX7_end_108 (by decide) (fun c_35 => ?_) (fun c_35 => ?_)
          · have h := it_ c_35 h
            obtain rfl := Option.some.inj h
            exact a_vret C0 dX7_end_120 rfl
          · have h := ie_ c_35 h
            refine a_aload_n C0 dX7_end_111 rfl 0 rfl ?_
            refine a_iconst C0 (5 : Int32) dX7_end_112 (by decide) ?_
            refine a_aload_n C0 dX7_end_113 rfl 0 rfl ?_
            refine a_get C0 inX7_end_X7 0 rfl rfl 14 (by decide) lkX7_end_63 (fun _ h9 => h9) (.int (f0_34 14)) rfl dX7_end_114 ?_
            obtain ⟨f0_36, h_37, h⟩ := bd1_e h
            refine a_callVv C0 (wdX7_11 cA q0 q1 q2 q3 q4 q5 q6 q7 q8 q9 q10 q11 q12 q13 f0_36 l0_31 l0_32 f1 f2 f3 f4 f5 f6 f7 f8 f9 f10 f11) (As := [.int (5 : Int32), .int (f0_34 14)]) (rest := []) (ctX7_fault l D cA q0 q1 q2 q3 q4 q5 q6 q7 q8 q9 q10 q11 q12 q13 (5 : Int32) (f0_34 14) f0_34 l0_31 l0_32 h_37) (cwV 2 C0.1.2.2.2.2 gX7_end_X7_fault rfl rfl rfl hdX7_fault ⟨Nat.le_of_ble_eq_true rfl, Nat.le_of_ble_eq_true rfl⟩) [0] [1, 2, 3, 4, 5, 6, 7, 8, 9, 10, 11] [11, 0, 1, 2, 3, 4, 5, 6, 7, 8, 9, 10] rfl rfl rfl rfl (by decide) rfl rfl rfl rfl rfl rfl (Nat.le_of_ble_eq_true rfl) dX7_end_117 ⟨Nat.zero_le _, Nat.zero_le _⟩ ?_
            obtain rfl := Option.some.inj h
            exact a_vret C0 dX7_end_120 rfl
      · have h := ie_ c_19 h
        refine a_aload_n C0 dX7_end_68 rfl 0 rfl ?_
        refine a_iconst C0 (4 : Int32) dX7_end_69 (by decide) ?_
        refine a_aload_n C0 dX7_end_70 rfl 0 rfl ?_
        refine a_get C0 inX7_end_X7 0 rfl rfl 14 (by decide) lkX7_end_63 (fun _ h9 => h9) (.int (f0 14)) rfl dX7_end_71 ?_
        obtain ⟨f0_38, h_39, h⟩ := bd1_e h
        refine a_callVv C0 (wdX7_11 cA q0 q1 q2 q3 q4 q5 q6 q7 q8 q9 q10 q11 q12 q13 f0_38 l0_31 l0_32 f1 f2 f3 f4 f5 f6 f7 f8 f9 f10 f11) (As := [.int (4 : Int32), .int (f0 14)]) (rest := []) (ctX7_fault l D cA q0 q1 q2 q3 q4 q5 q6 q7 q8 q9 q10 q11 q12 q13 (4 : Int32) (f0 14) f0 l0_31 l0_32 h_39) (cwV 2 C0.1.2.2.2.2 gX7_end_X7_fault rfl rfl rfl hdX7_fault ⟨Nat.le_of_ble_eq_true rfl, Nat.le_of_ble_eq_true rfl⟩) [0] [1, 2, 3, 4, 5, 6, 7, 8, 9, 10, 11] [11, 0, 1, 2, 3, 4, 5, 6, 7, 8, 9, 10] rfl rfl rfl rfl (by decide) rfl rfl rfl rfl rfl rfl (Nat.le_of_ble_eq_true rfl) dX7_end_74 ⟨Nat.zero_le _, Nat.zero_le _⟩ ?_
        obtain rfl := Option.some.inj h
        exact a_vret C0 dX7_end_77 rfl
    · have h := ie_ c_17 h
      refine a_iload_n C0 dX7_end_26 rfl 1 rfl ?_
      refine a_aload_n C0 dX7_end_27 rfl 0 rfl ?_
      refine a_get C0 inX7_end_X7 0 rfl rfl 9 (by decide) lkX7_end_31 (fun _ h9 => h9) (.ref q8) rfl dX7_end_28 ?_
      refine a_aload_n C0 dX7_end_31 rfl 0 rfl ?_
      refine a_get C0 inX7_end_X7 0 rfl rfl 3 (by decide) lkX7_end_13 (fun _ h9 => h9) (.ref q2) rfl dX7_end_32 ?_
      refine a_aload_n C0 dX7_end_35 rfl 0 rfl ?_
      refine a_get C0 inX7_end_X7 0 rfl rfl 2 (by decide) lkX7_end_66 (fun _ h9 => h9) (.int (f0 2)) rfl dX7_end_36 ?_
      obtain ⟨g_40, h⟩ := gi_e h
      refine a_iald C0 2 0 rfl rfl g_40 dX7_end_39 ?_
      refine a_iload_n C0 dX7_end_40 rfl 2 rfl ?_
      refine a_iadd C0 dX7_end_41 ?_
      obtain ⟨g_41, h⟩ := gi_e h
      refine a_iald C0 8 0 rfl rfl g_41 dX7_end_42 ?_
      refine a_iadd C0 dX7_end_43 ?_
      obtain ⟨x_42, ex_42, h⟩ := lt_e h
      refine a_topi ex_42 ?_
      refine a_istore_n C0 [(1, .int x_42), (0, .ref q0), (2, .int v2)] dX7_end_44 rfl (by decide) rfl ?_
      obtain ⟨x_43, ex_43, h⟩ := lt_e h
      refine a_iinc C0 x_43 [(2, .int x_43), (1, .int x_42), (0, .ref q0)] dX7_end_45 2 rfl (by subst ex_43; rfl) (by decide) rfl ?_
      refine a_goto C0 13 dX7_end_48 (by decide) ?_
      refine a_lv [2, 1, 0] (lv' := [(0, .ref q0), (1, .int x_42), (2, .int x_43)]) rfl ?_
      exact hrc13 x_42 x_43 f0 f3 f8 h
set_option maxHeartbeats 4000000 in
set_option maxRecDepth 100000 in
theorem bwX7_end {p : Program} {l : Launch} {e : Env} {s : State} {m : MethodId} {args : Array Value} {below : List Frame} {meth : Method} {c : Code} {D : va_G} {A : Nat → Prop} {cA : ClassId} {q0 q1 q2 q3 q4 q5 q6 q7 q8 q9 q10 q11 q12 q13 : Nat} {res : (Nat → Int32) × (Nat → Int32) × (Nat → Int32)} (C0 : cx p s m args meth c cX7_end 7 RX7 wsX7_end none D vwCl [(cA, .int)] A) (N : Nat) (f0 : Nat → Int32) (l0_31 : Int64) (l0_32 : Int64) (f1 : Nat → Int32) (f2 : Nat → Int32) (f3 : Nat → Int32) (f4 : Nat → Int32) (f5 : Nat → Int32) (f6 : Nat → Int32) (f7 : Nat → Int32) (f8 : Nat → Int32) (f9 : Nat → Int32) (f10 : Nat → Int32) (f11 : Nat → Int32) (h : pX7_end N f0 l0_31 l0_32 f1 f2 f3 f4 f5 f6 f7 f8 f9 f10 f11 = some res) : At_ p l e (rmX7_end) s m args below meth c D vwCl A 7 0 0 (Qv_ below args s D vwCl A (wdX7_11 cA q0 q1 q2 q3 q4 q5 q6 q7 q8 q9 q10 q11 q12 q13 res.1 l0_31 l0_32 f1 f2 res.2.1 f4 f5 f6 f7 res.2.2 f9 f10 f11)) 0 [(0, .ref q0)] [] (wdX7_11 cA q0 q1 q2 q3 q4 q5 q6 q7 q8 q9 q10 q11 q12 q13 f0 l0_31 l0_32 f1 f2 f3 f4 f5 f6 f7 f8 f9 f10 f11) := by
  unfold pX7_end at h
  refine a_aload_n C0 dX7_end_0 rfl 0 rfl ?_
  refine a_iconst C0 (1 : Int32) dX7_end_1 (by decide) ?_
  obtain ⟨r_44, f0_45, h_46, h⟩ := bd2_e h
  refine a_callVi C0 (wdX7_11 cA q0 q1 q2 q3 q4 q5 q6 q7 q8 q9 q10 q11 q12 q13 f0_45 l0_31 l0_32 f1 f2 f3 f4 f5 f6 f7 f8 f9 f10 f11) (As := [.int (1 : Int32)]) (rest := []) (ctX7_has l D cA q0 q1 q2 q3 q4 q5 q6 q7 q8 q9 q10 q11 q12 q13 (1 : Int32) f0 l0_31 l0_32 f4 f6 h_46) (cwV 1 C0.1.2.2.2.2 gX7_end_X7_has rfl rfl rfl hdX7_has ⟨Nat.le_of_ble_eq_true rfl, Nat.le_of_ble_eq_true rfl⟩) [0, 4, 6] [1, 2, 3, 5, 7, 8, 9, 10, 11] [9, 0, 1, 2, 10, 3, 11, 4, 5, 6, 7, 8] rfl rfl rfl rfl (by decide) rfl rfl rfl rfl rfl rfl (Nat.le_of_ble_eq_true rfl) dX7_end_2 ⟨Nat.zero_le _, Nat.zero_le _⟩ ?_
  refine a_if_ne C0 9 dX7_end_5 (by decide) (fun c_47 => ?_) (fun c_47 => ?_)
  · have h := ie_ c_47 h
    refine a_iconst C0 (0 : Int32) dX7_end_9 (by decide) ?_
    refine a_istore_n C0 [(1, .int (0 : Int32)), (0, .ref q0)] dX7_end_10 rfl (by decide) rfl ?_
    refine a_iconst C0 (0 : Int32) dX7_end_11 (by decide) ?_
    refine a_istore_n C0 [(2, .int (0 : Int32)), (1, .int (0 : Int32)), (0, .ref q0)] dX7_end_12 rfl (by decide) rfl ?_
    refine a_lv [2, 1, 0] (lv' := [(0, .ref q0), (1, .int (0 : Int32)), (2, .int (0 : Int32))]) rfl ?_
    exact bwX7_end_13 C0 N l0_31 l0_32 f1 f2 f4 f5 f6 f7 f9 f10 f11 N (0 : Int32) (0 : Int32) f0_45 f3 f8 h
  · have h := it_ c_47 h
    obtain rfl := Option.some.inj h
    exact a_vret C0 dX7_end_8 rfl
set_option maxRecDepth 100000 in
theorem ctX7_end (l : Launch) (D : va_G) (cA : ClassId) (q0 q1 q2 q3 q4 q5 q6 q7 q8 q9 q10 q11 q12 q13 : Nat) (N : Nat) (f0 : Nat → Int32) (l0_31 : Int64) (l0_32 : Int64) (f1 : Nat → Int32) (f2 : Nat → Int32) (f3 : Nat → Int32) (f4 : Nat → Int32) (f5 : Nat → Int32) (f6 : Nat → Int32) (f7 : Nat → Int32) (f8 : Nat → Int32) (f9 : Nat → Int32) (f10 : Nat → Int32) (f11 : Nat → Int32) {res : (Nat → Int32) × (Nat → Int32) × (Nat → Int32)} (h : pX7_end N f0 l0_31 l0_32 f1 f2 f3 f4 f5 f6 f7 f8 f9 f10 f11 = some res) : Ctv l yX7_end wsX7_end (rmX7_end) D vwCl [(cA, .int)] [.ref q0] (wdX7_11 cA q0 q1 q2 q3 q4 q5 q6 q7 q8 q9 q10 q11 q12 q13 f0 l0_31 l0_32 f1 f2 f3 f4 f5 f6 f7 f8 f9 f10 f11) (wdX7_11 cA q0 q1 q2 q3 q4 q5 q6 q7 q8 q9 q10 q11 q12 q13 res.1 l0_31 l0_32 f1 f2 res.2.1 f4 f5 f6 f7 res.2.2 f9 f10 f11) 0 0 :=
  ct_n (S := Unit) (maxL := 7) (cc := cX7_end) (by decide) rfl (Nat.le_of_ble_eq_true rfl) (fun p e s m below meth c _ C0 => bwX7_end C0 N f0 l0_31 l0_32 f1 f2 f3 f4 f5 f6 f7 f8 f9 f10 f11 h)
/-! PackDrawerModel.item -/
theorem hdX7_raw : yX7_raw.cls = RX7 ∧ yX7_raw.cls ≠ "java/lang/invoke/MethodHandle" ∧ yX7_raw.cls ≠ "java/lang/invoke/VarHandle" ∧ (parseMethodDescriptor yX7_raw.desc).map (fun d => d.parameters.length) = some 2 := by decide +kernel
theorem hdX7_inner : yX7_inner.cls = RX7 ∧ yX7_inner.cls ≠ "java/lang/invoke/MethodHandle" ∧ yX7_inner.cls ≠ "java/lang/invoke/VarHandle" ∧ (parseMethodDescriptor yX7_inner.desc).map (fun d => d.parameters.length) = some 1 := by decide +kernel
theorem hdX7_copy : yX7_copy.cls = RX7 ∧ yX7_copy.cls ≠ "java/lang/invoke/MethodHandle" ∧ yX7_copy.cls ≠ "java/lang/invoke/VarHandle" ∧ (parseMethodDescriptor yX7_copy.desc).map (fun d => d.parameters.length) = some 2 := by decide +kernel
theorem hdX7_end : yX7_end.cls = RX7 ∧ yX7_end.cls ≠ "java/lang/invoke/MethodHandle" ∧ yX7_end.cls ≠ "java/lang/invoke/VarHandle" ∧ (parseMethodDescriptor yX7_end.desc).map (fun d => d.parameters.length) = some 0 := by decide +kernel
abbrev rmX7_item : Room := { frames := 5, cells := 0, slots := 0, locals := 117 }
theorem lkX7_item_113 : Cond.fieldLink RX7 113 RX7 (TX7 28).2.1 (TX7 28).2.2.1 ∈ wsX7_item := by decide +kernel
theorem inX7_item_X7 : ∀ w ∈ u_ws RX7 TX7 33, w ∈ wsX7_item := by decide +kernel
theorem lkX7_item_34 : Cond.fieldLink RX7 34 RX7 (TX7 11).2.1 (TX7 11).2.2.1 ∈ wsX7_item := by decide +kernel
theorem lkX7_item_94 : Cond.fieldLink RX7 94 RX7 (TX7 10).2.1 (TX7 10).2.2.1 ∈ wsX7_item := by decide +kernel
theorem lkX7_item_37 : Cond.fieldLink RX7 37 RX7 (TX7 12).2.1 (TX7 12).2.2.1 ∈ wsX7_item := by decide +kernel
theorem lkX7_item_40 : Cond.fieldLink RX7 40 RX7 (TX7 13).2.1 (TX7 13).2.2.1 ∈ wsX7_item := by decide +kernel
theorem lkX7_item_16 : Cond.fieldLink RX7 16 RX7 (TX7 4).2.1 (TX7 4).2.2.1 ∈ wsX7_item := by decide +kernel
theorem lkX7_item_66 : Cond.fieldLink RX7 66 RX7 (TX7 2).2.1 (TX7 2).2.2.1 ∈ wsX7_item := by decide +kernel
theorem lkX7_item_63 : Cond.fieldLink RX7 63 RX7 (TX7 14).2.1 (TX7 14).2.2.1 ∈ wsX7_item := by decide +kernel
theorem lkX7_item_73 : Cond.fieldLink RX7 73 RX7 (TX7 18).2.1 (TX7 18).2.2.1 ∈ wsX7_item := by decide +kernel
theorem lkX7_item_104 : Cond.fieldLink RX7 104 RX7 (TX7 22).2.1 (TX7 22).2.2.1 ∈ wsX7_item := by decide +kernel
theorem lkX7_item_7 : Cond.fieldLink RX7 7 RX7 (TX7 0).2.1 (TX7 0).2.2.1 ∈ wsX7_item := by decide +kernel
theorem lkX7_item_28 : Cond.fieldLink RX7 28 RX7 (TX7 8).2.1 (TX7 8).2.2.1 ∈ wsX7_item := by decide +kernel
def bfX7_item_160 (N : Nat) (l0_31 : Int64) (l0_32 : Int64) (f1 : Nat → Int32) (v1 : Int32) (v2 : Int32) (s1 : Int32) (f0 : Nat → Int32) (f2 : Nat → Int32) (f3 : Nat → Int32) (f4 : Nat → Int32) (f5 : Nat → Int32) (f6 : Nat → Int32) (f7 : Nat → Int32) (f8 : Nat → Int32) (f9 : Nat → Int32) (f10 : Nat → Int32) (f11 : Nat → Int32) : Option ((Nat → Int32) × (Nat → Int32) × (Nat → Int32) × (Nat → Int32) × (Nat → Int32) × (Nat → Int32) × (Nat → Int32) × (Nat → Int32) × (Nat → Int32) × (Nat → Int32) × (Nat → Int32)) := lt_ (upd f0 28 s1) (fun f0_1 => gi_ (f0_1 10) 170 (lt_ (upd f9 (f0_1 10).toNatClampNeg (v2 - (126 : Int32))) (fun f9_3 => gi_ (f0_1 10) 170 (lt_ (upd f10 (f0_1 10).toNatClampNeg v1) (fun f10_5 => gi_ (f0_1 2) 6 (gi_ (f0_1 10) 170 (lt_ (upd f11 (f0_1 10).toNatClampNeg (f3 (f0_1 2).toNatClampNeg)) (fun f11_8 => lt_ (upd f0_1 10 ((f0_1 10) + (1 : Int32))) (fun f0_9 => some (f0_9, f2, f3, f4, f5, f6, f7, f8, f9_3, f10_5, f11_8))))))))))
def pX7_item (N : Nat) (f0 : Nat → Int32) (l0_31 : Int64) (l0_32 : Int64) (f1 : Nat → Int32) (f2 : Nat → Int32) (f3 : Nat → Int32) (f4 : Nat → Int32) (f5 : Nat → Int32) (f6 : Nat → Int32) (f7 : Nat → Int32) (f8 : Nat → Int32) (f9 : Nat → Int32) (f10 : Nat → Int32) (f11 : Nat → Int32) : Option ((Nat → Int32) × (Nat → Int32) × (Nat → Int32) × (Nat → Int32) × (Nat → Int32) × (Nat → Int32) × (Nat → Int32) × (Nat → Int32) × (Nat → Int32) × (Nat → Int32) × (Nat → Int32)) := bd2 (pX7_has (1 : Int32) f0 l0_31 l0_32 f4 f6) (fun r_10 f0_11 => if r_10 = 0 then some (f0_11, f2, f3, f4, f5, f6, f7, f8, f9, f10, f11) else bd2 (pX7_steps (f0_11 14) f0_11 l0_31 l0_32) (fun r_14 f0_15 => if r_14 = 0 then some (f0_15, f2, f3, f4, f5, f6, f7, f8, f9, f10, f11) else lt_ (upd f0_15 18 ((f0_15 18) + (1 : Int32))) (fun f0_18 => lt_ (upd f0_18 22 ((f0_18 22) + (1 : Int32))) (fun f0_19 => lt_ ((f0_19 14)) (fun x_20 => gi_ (f0_19 14) 160 (lt_ ((f1 (f0_19 14).toNatClampNeg)) (fun x_22 => lt_ (upd f0_19 14 ((f0_19 14) + (1 : Int32))) (fun f0_23 => if x_22 = 0 then gi_ (f0_23 2) 6 (if (f0_23 10) ≤ (f7 (f0_23 2).toNatClampNeg) then bd3 (pX7_end N f0_23 l0_31 l0_32 f1 f2 f3 f4 f5 f6 f7 f8 f9 f10 f11) (fun f0_60 f3_61 f8_62 => some (f0_60, f2, f3_61, f4, f5, f6, f7, f8_62, f9, f10, f11)) else bd1 (pX7_fault (7 : Int32) x_20 f0_23 l0_31 l0_32) (fun f0_64 => some (f0_64, f2, f3, f4, f5, f6, f7, f8, f9, f10, f11))) else if (64 : Int32) ≤ x_22 then if (128 : Int32) ≤ x_22 then if (192 : Int32) ≤ x_22 then if (255 : Int32) ≤ x_22 then bd2 (pX7_has (2 : Int32) f0_23 l0_31 l0_32 f4 f6) (fun r_29 f0_30 => if r_29 = 0 then some (f0_30, f2, f3, f4, f5, f6, f7, f8, f9, f10, f11) else gi_ (f0_30 14) 160 (gi_ ((f0_30 14) + (1 : Int32)) 160 (lt_ ((((256 : Int32) * (f1 (f0_30 14).toNatClampNeg)) + (f1 ((f0_30 14) + (1 : Int32)).toNatClampNeg))) (fun x_35 => lt_ (upd f0_30 14 ((f0_30 14) + (2 : Int32))) (fun f0_36 => bd3 (pX7_raw N x_35 x_20 f0_36 l0_31 l0_32 f1 f2 f3 f4 f6 f7 f8 f9 f10 f11) (fun f0_37 f3_38 f8_39 => some (f0_37, f2, f3_38, f4, f5, f6, f7, f8_39, f9, f10, f11))))))) else bd7 (pX7_inner x_20 f0_23 l0_31 l0_32 f1 f2 f3 f4 f5 f6 f7) (fun f0_41 f2_42 f3_43 f4_44 f5_45 f6_46 f7_47 => some (f0_41, f2_42, f3_43, f4_44, f5_45, f6_46, f7_47, f8, f9, f10, f11)) else if (f0_23 28) = (-1 : Int32) then bfX7_item_160 N l0_31 l0_32 f1 x_20 x_22 x_20 f0_23 f2 f3 f4 f5 f6 f7 f8 f9 f10 f11 else bfX7_item_160 N l0_31 l0_32 f1 x_20 x_22 (f0_23 28) f0_23 f2 f3 f4 f5 f6 f7 f8 f9 f10 f11 else bd3 (pX7_copy N (x_22 - (62 : Int32)) x_20 f0_23 l0_31 l0_32 f1 f2 f3 f4 f6 f7 f8 f9 f10 f11) (fun f0_50 f3_51 f8_52 => some (f0_50, f2, f3_51, f4, f5, f6, f7, f8_52, f9, f10, f11)) else bd3 (pX7_raw N x_22 x_20 f0_23 l0_31 l0_32 f1 f2 f3 f4 f6 f7 f8 f9 f10 f11) (fun f0_54 f3_55 f8_56 => some (f0_54, f2, f3_55, f4, f5, f6, f7, f8_56, f9, f10, f11))))))))))
set_option maxHeartbeats 4000000 in
set_option maxRecDepth 100000 in
theorem bwX7_item_160 {p : Program} {l : Launch} {e : Env} {s : State} {m : MethodId} {args : Array Value} {below : List Frame} {meth : Method} {c : Code} {D : va_G} {A : Nat → Prop} {cA : ClassId} {q0 q1 q2 q3 q4 q5 q6 q7 q8 q9 q10 q11 q12 q13 : Nat} {res : (Nat → Int32) × (Nat → Int32) × (Nat → Int32) × (Nat → Int32) × (Nat → Int32) × (Nat → Int32) × (Nat → Int32) × (Nat → Int32) × (Nat → Int32) × (Nat → Int32) × (Nat → Int32)} (C0 : cx p s m args meth c cX7_item 4 RX7 wsX7_item none D vwCl [(cA, .int)] A) (N : Nat) (l0_31 : Int64) (l0_32 : Int64) (f1 : Nat → Int32) (v1 : Int32) (v2 : Int32) (s1 : Int32) (f0 : Nat → Int32) (f2 : Nat → Int32) (f3 : Nat → Int32) (f4 : Nat → Int32) (f5 : Nat → Int32) (f6 : Nat → Int32) (f7 : Nat → Int32) (f8 : Nat → Int32) (f9 : Nat → Int32) (f10 : Nat → Int32) (f11 : Nat → Int32) (h : bfX7_item_160 N l0_31 l0_32 f1  v1 v2 s1 f0 f2 f3 f4 f5 f6 f7 f8 f9 f10 f11 = some res) : At_ p l e (rmX7_item) s m args below meth c D vwCl A 4 0 0 (Qv_ below args s D vwCl A (wdX7_11 cA q0 q1 q2 q3 q4 q5 q6 q7 q8 q9 q10 q11 q12 q13 res.1 l0_31 l0_32 f1 res.2.1 res.2.2.1 res.2.2.2.1 res.2.2.2.2.1 res.2.2.2.2.2.1 res.2.2.2.2.2.2.1 res.2.2.2.2.2.2.2.1 res.2.2.2.2.2.2.2.2.1 res.2.2.2.2.2.2.2.2.2.1 res.2.2.2.2.2.2.2.2.2.2)) 160 [(0, .ref q0), (1, .int v1), (2, .int v2)] [.int s1, .ref q0] (wdX7_11 cA q0 q1 q2 q3 q4 q5 q6 q7 q8 q9 q10 q11 q12 q13 f0 l0_31 l0_32 f1 f2 f3 f4 f5 f6 f7 f8 f9 f10 f11) := by
  unfold bfX7_item_160 at h
  obtain ⟨f0_1, ef0_1, h⟩ := lt_e h
  refine a_put C0 inX7_item_X7 tyX7 tyX7_ok nmX7 0 rfl rfl 28 (by decide) lkX7_item_113 (fun _ h9 => h9) rfl (ty := .int) (v := .int s1) (by decide +kernel) rfl rfl (Nat.le_of_ble_eq_true rfl) dX7_item_160 (wdX7_11 cA q0 q1 q2 q3 q4 q5 q6 q7 q8 q9 q10 q11 q12 q13 f0_1 l0_31 l0_32 f1 f2 f3 f4 f5 f6 f7 f8 f9 f10 f11) (by subst ef0_1; rfl) ?_
  refine a_aload_n C0 dX7_item_163 rfl 0 rfl ?_
  refine a_get C0 inX7_item_X7 0 rfl rfl 11 (by decide) lkX7_item_34 (fun _ h9 => h9) (.ref q9) rfl dX7_item_164 ?_
  refine a_aload_n C0 dX7_item_167 rfl 0 rfl ?_
  refine a_get C0 inX7_item_X7 0 rfl rfl 10 (by decide) lkX7_item_94 (fun _ h9 => h9) (.int (f0_1 10)) rfl dX7_item_168 ?_
  refine a_iload_n C0 dX7_item_171 rfl 2 rfl ?_
  refine a_bipush C0 (126 : Int32) dX7_item_172 (by decide) ?_
  refine a_isub C0 dX7_item_174 ?_
  obtain ⟨g_2, h⟩ := gi_e h
  obtain ⟨f9_3, ef9_3, h⟩ := lt_e h
  refine a_iast C0 9 0 rfl rfl g_2 dX7_item_175 (wdX7_11 cA q0 q1 q2 q3 q4 q5 q6 q7 q8 q9 q10 q11 q12 q13 f0_1 l0_31 l0_32 f1 f2 f3 f4 f5 f6 f7 f8 f9_3 f10 f11) (by subst ef9_3; rfl) ?_
  refine a_aload_n C0 dX7_item_176 rfl 0 rfl ?_
  refine a_get C0 inX7_item_X7 0 rfl rfl 12 (by decide) lkX7_item_37 (fun _ h9 => h9) (.ref q10) rfl dX7_item_177 ?_
  refine a_aload_n C0 dX7_item_180 rfl 0 rfl ?_
  refine a_get C0 inX7_item_X7 0 rfl rfl 10 (by decide) lkX7_item_94 (fun _ h9 => h9) (.int (f0_1 10)) rfl dX7_item_181 ?_
  refine a_iload_n C0 dX7_item_184 rfl 1 rfl ?_
  obtain ⟨g_4, h⟩ := gi_e h
  obtain ⟨f10_5, ef10_5, h⟩ := lt_e h
  refine a_iast C0 10 0 rfl rfl g_4 dX7_item_185 (wdX7_11 cA q0 q1 q2 q3 q4 q5 q6 q7 q8 q9 q10 q11 q12 q13 f0_1 l0_31 l0_32 f1 f2 f3 f4 f5 f6 f7 f8 f9_3 f10_5 f11) (by subst ef10_5; rfl) ?_
  refine a_aload_n C0 dX7_item_186 rfl 0 rfl ?_
  refine a_get C0 inX7_item_X7 0 rfl rfl 13 (by decide) lkX7_item_40 (fun _ h9 => h9) (.ref q11) rfl dX7_item_187 ?_
  refine a_aload_n C0 dX7_item_190 rfl 0 rfl ?_
  refine a_get C0 inX7_item_X7 0 rfl rfl 10 (by decide) lkX7_item_94 (fun _ h9 => h9) (.int (f0_1 10)) rfl dX7_item_191 ?_
  refine a_aload_n C0 dX7_item_194 rfl 0 rfl ?_
  refine a_get C0 inX7_item_X7 0 rfl rfl 4 (by decide) lkX7_item_16 (fun _ h9 => h9) (.ref q3) rfl dX7_item_195 ?_
  refine a_aload_n C0 dX7_item_198 rfl 0 rfl ?_
  refine a_get C0 inX7_item_X7 0 rfl rfl 2 (by decide) lkX7_item_66 (fun _ h9 => h9) (.int (f0_1 2)) rfl dX7_item_199 ?_
  obtain ⟨g_6, h⟩ := gi_e h
  refine a_iald C0 3 0 rfl rfl g_6 dX7_item_202 ?_
  obtain ⟨g_7, h⟩ := gi_e h
  obtain ⟨f11_8, ef11_8, h⟩ := lt_e h
  refine a_iast C0 11 0 rfl rfl g_7 dX7_item_203 (wdX7_11 cA q0 q1 q2 q3 q4 q5 q6 q7 q8 q9 q10 q11 q12 q13 f0_1 l0_31 l0_32 f1 f2 f3 f4 f5 f6 f7 f8 f9_3 f10_5 f11_8) (by subst ef11_8; rfl) ?_
  refine a_aload_n C0 dX7_item_204 rfl 0 rfl ?_
  refine a_dup C0 dX7_item_205 rfl ?_
  refine a_get C0 inX7_item_X7 0 rfl rfl 10 (by decide) lkX7_item_94 (fun _ h9 => h9) (.int (f0_1 10)) rfl dX7_item_206 ?_
  refine a_iconst C0 (1 : Int32) dX7_item_209 (by decide) ?_
  refine a_iadd C0 dX7_item_210 ?_
  obtain ⟨f0_9, ef0_9, h⟩ := lt_e h
  refine a_put C0 inX7_item_X7 tyX7 tyX7_ok nmX7 0 rfl rfl 10 (by decide) lkX7_item_94 (fun _ h9 => h9) rfl (ty := .int) (v := .int ((f0_1 10) + (1 : Int32))) (by decide +kernel) rfl rfl (Nat.le_of_ble_eq_true rfl) dX7_item_211 (wdX7_11 cA q0 q1 q2 q3 q4 q5 q6 q7 q8 q9 q10 q11 q12 q13 f0_9 l0_31 l0_32 f1 f2 f3 f4 f5 f6 f7 f8 f9_3 f10_5 f11_8) (by subst ef0_9; rfl) ?_
  refine a_goto C0 282 dX7_item_214 (by decide) ?_
  obtain rfl := Option.some.inj h
  exact a_vret C0 dX7_item_282 rfl
set_option maxHeartbeats 4000000 in
set_option maxRecDepth 100000 in
theorem bwX7_item {p : Program} {l : Launch} {e : Env} {s : State} {m : MethodId} {args : Array Value} {below : List Frame} {meth : Method} {c : Code} {D : va_G} {A : Nat → Prop} {cA : ClassId} {q0 q1 q2 q3 q4 q5 q6 q7 q8 q9 q10 q11 q12 q13 : Nat} {res : (Nat → Int32) × (Nat → Int32) × (Nat → Int32) × (Nat → Int32) × (Nat → Int32) × (Nat → Int32) × (Nat → Int32) × (Nat → Int32) × (Nat → Int32) × (Nat → Int32) × (Nat → Int32)} (C0 : cx p s m args meth c cX7_item 4 RX7 wsX7_item none D vwCl [(cA, .int)] A) (N : Nat) (f0 : Nat → Int32) (l0_31 : Int64) (l0_32 : Int64) (f1 : Nat → Int32) (f2 : Nat → Int32) (f3 : Nat → Int32) (f4 : Nat → Int32) (f5 : Nat → Int32) (f6 : Nat → Int32) (f7 : Nat → Int32) (f8 : Nat → Int32) (f9 : Nat → Int32) (f10 : Nat → Int32) (f11 : Nat → Int32) (h : pX7_item N f0 l0_31 l0_32 f1 f2 f3 f4 f5 f6 f7 f8 f9 f10 f11 = some res) : At_ p l e (rmX7_item) s m args below meth c D vwCl A 4 0 0 (Qv_ below args s D vwCl A (wdX7_11 cA q0 q1 q2 q3 q4 q5 q6 q7 q8 q9 q10 q11 q12 q13 res.1 l0_31 l0_32 f1 res.2.1 res.2.2.1 res.2.2.2.1 res.2.2.2.2.1 res.2.2.2.2.2.1 res.2.2.2.2.2.2.1 res.2.2.2.2.2.2.2.1 res.2.2.2.2.2.2.2.2.1 res.2.2.2.2.2.2.2.2.2.1 res.2.2.2.2.2.2.2.2.2.2)) 0 [(0, .ref q0)] [] (wdX7_11 cA q0 q1 q2 q3 q4 q5 q6 q7 q8 q9 q10 q11 q12 q13 f0 l0_31 l0_32 f1 f2 f3 f4 f5 f6 f7 f8 f9 f10 f11) := by
  unfold pX7_item at h
  refine a_aload_n C0 dX7_item_0 rfl 0 rfl ?_
  refine a_iconst C0 (1 : Int32) dX7_item_1 (by decide) ?_
  obtain ⟨r_10, f0_11, h_12, h⟩ := bd2_e h
  refine a_callVi C0 (wdX7_11 cA q0 q1 q2 q3 q4 q5 q6 q7 q8 q9 q10 q11 q12 q13 f0_11 l0_31 l0_32 f1 f2 f3 f4 f5 f6 f7 f8 f9 f10 f11) (As := [.int (1 : Int32)]) (rest := []) (ctX7_has l D cA q0 q1 q2 q3 q4 q5 q6 q7 q8 q9 q10 q11 q12 q13 (1 : Int32) f0 l0_31 l0_32 f4 f6 h_12) (cwV 1 C0.1.2.2.2.2 gX7_item_X7_has rfl rfl rfl hdX7_has ⟨Nat.le_of_ble_eq_true rfl, Nat.le_of_ble_eq_true rfl⟩) [0, 4, 6] [1, 2, 3, 5, 7, 8, 9, 10, 11] [9, 0, 1, 2, 10, 3, 11, 4, 5, 6, 7, 8] rfl rfl rfl rfl (by decide) rfl rfl rfl rfl rfl rfl (Nat.le_of_ble_eq_true rfl) dX7_item_2 ⟨Nat.zero_le _, Nat.zero_le _⟩ ?_
  refine a_if_eq C0 19 dX7_item_5 (by decide) (fun c_13 => ?_) (fun c_13 => ?_)
  · have h := it_ c_13 h
    obtain rfl := Option.some.inj h
    exact a_vret C0 dX7_item_19 rfl
  · have h := ie_ c_13 h
    refine a_aload_n C0 dX7_item_8 rfl 0 rfl ?_
    refine a_aload_n C0 dX7_item_9 rfl 0 rfl ?_
    refine a_get C0 inX7_item_X7 0 rfl rfl 14 (by decide) lkX7_item_63 (fun _ h9 => h9) (.int (f0_11 14)) rfl dX7_item_10 ?_
    obtain ⟨r_14, f0_15, h_16, h⟩ := bd2_e h
    refine a_callVi C0 (wdX7_11 cA q0 q1 q2 q3 q4 q5 q6 q7 q8 q9 q10 q11 q12 q13 f0_15 l0_31 l0_32 f1 f2 f3 f4 f5 f6 f7 f8 f9 f10 f11) (As := [.int (f0_11 14)]) (rest := []) (ctX7_steps l D cA q0 q1 q2 q3 q4 q5 q6 q7 q8 q9 q10 q11 q12 q13 (f0_11 14) f0_11 l0_31 l0_32 h_16) (cwV 1 C0.1.2.2.2.2 gX7_item_X7_steps rfl rfl rfl hdX7_steps ⟨Nat.le_of_ble_eq_true rfl, Nat.le_of_ble_eq_true rfl⟩) [0] [1, 2, 3, 4, 5, 6, 7, 8, 9, 10, 11] [11, 0, 1, 2, 3, 4, 5, 6, 7, 8, 9, 10] rfl rfl rfl rfl (by decide) rfl rfl rfl rfl rfl rfl (Nat.le_of_ble_eq_true rfl) dX7_item_13 ⟨Nat.zero_le _, Nat.zero_le _⟩ ?_
    refine a_if_ne C0 20 dX7_item_16 (by decide) (fun c_17 => ?_) (fun c_17 => ?_)
    · have h := ie_ c_17 h
      refine a_aload_n C0 dX7_item_20 rfl 0 rfl ?_
      refine a_dup C0 dX7_item_21 rfl ?_
      refine a_get C0 inX7_item_X7 0 rfl rfl 18 (by decide) lkX7_item_73 (fun _ h9 => h9) (.int (f0_15 18)) rfl dX7_item_22 ?_
      refine a_iconst C0 (1 : Int32) dX7_item_25 (by decide) ?_
      refine a_iadd C0 dX7_item_26 ?_
      obtain ⟨f0_18, ef0_18, h⟩ := lt_e h
      refine a_put C0 inX7_item_X7 tyX7 tyX7_ok nmX7 0 rfl rfl 18 (by decide) lkX7_item_73 (fun _ h9 => h9) rfl (ty := .int) (v := .int ((f0_15 18) + (1 : Int32))) (by decide +kernel) rfl rfl (Nat.le_of_ble_eq_true rfl) dX7_item_27 (wdX7_11 cA q0 q1 q2 q3 q4 q5 q6 q7 q8 q9 q10 q11 q12 q13 f0_18 l0_31 l0_32 f1 f2 f3 f4 f5 f6 f7 f8 f9 f10 f11) (by subst ef0_18; rfl) ?_
      refine a_aload_n C0 dX7_item_30 rfl 0 rfl ?_
      refine a_dup C0 dX7_item_31 rfl ?_
      refine a_get C0 inX7_item_X7 0 rfl rfl 22 (by decide) lkX7_item_104 (fun _ h9 => h9) (.int (f0_18 22)) rfl dX7_item_32 ?_
      refine a_iconst C0 (1 : Int32) dX7_item_35 (by decide) ?_
      refine a_iadd C0 dX7_item_36 ?_
      obtain ⟨f0_19, ef0_19, h⟩ := lt_e h
      refine a_put C0 inX7_item_X7 tyX7 tyX7_ok nmX7 0 rfl rfl 22 (by decide) lkX7_item_104 (fun _ h9 => h9) rfl (ty := .int) (v := .int ((f0_18 22) + (1 : Int32))) (by decide +kernel) rfl rfl (Nat.le_of_ble_eq_true rfl) dX7_item_37 (wdX7_11 cA q0 q1 q2 q3 q4 q5 q6 q7 q8 q9 q10 q11 q12 q13 f0_19 l0_31 l0_32 f1 f2 f3 f4 f5 f6 f7 f8 f9 f10 f11) (by subst ef0_19; rfl) ?_
      refine a_aload_n C0 dX7_item_40 rfl 0 rfl ?_
      refine a_get C0 inX7_item_X7 0 rfl rfl 14 (by decide) lkX7_item_63 (fun _ h9 => h9) (.int (f0_19 14)) rfl dX7_item_41 ?_
      obtain ⟨x_20, ex_20, h⟩ := lt_e h
      refine a_topi ex_20 ?_
      refine a_istore_n C0 [(1, .int x_20), (0, .ref q0)] dX7_item_44 rfl (by decide) rfl ?_
      refine a_aload_n C0 dX7_item_45 rfl 1 rfl ?_
      refine a_get C0 inX7_item_X7 0 rfl rfl 0 (by decide) lkX7_item_7 (fun _ h9 => h9) (.ref q1) rfl dX7_item_46 ?_
      refine a_aload_n C0 dX7_item_49 rfl 1 rfl ?_
      refine a_get C0 inX7_item_X7 0 rfl rfl 14 (by decide) lkX7_item_63 (fun _ h9 => h9) (.int (f0_19 14)) rfl dX7_item_50 ?_
      obtain ⟨g_21, h⟩ := gi_e h
      refine a_iald C0 1 0 rfl rfl g_21 dX7_item_53 ?_
      obtain ⟨x_22, ex_22, h⟩ := lt_e h
      refine a_topi ex_22 ?_
      refine a_istore_n C0 [(2, .int x_22), (1, .int x_20), (0, .ref q0)] dX7_item_54 rfl (by decide) rfl ?_
      refine a_aload_n C0 dX7_item_55 rfl 2 rfl ?_
      refine a_dup C0 dX7_item_56 rfl ?_
      refine a_get C0 inX7_item_X7 0 rfl rfl 14 (by decide) lkX7_item_63 (fun _ h9 => h9) (.int (f0_19 14)) rfl dX7_item_57 ?_
      refine a_iconst C0 (1 : Int32) dX7_item_60 (by decide) ?_
      refine a_iadd C0 dX7_item_61 ?_
      obtain ⟨f0_23, ef0_23, h⟩ := lt_e h
      refine a_put C0 inX7_item_X7 tyX7 tyX7_ok nmX7 0 rfl rfl 14 (by decide) lkX7_item_63 (fun _ h9 => h9) rfl (ty := .int) (v := .int ((f0_19 14) + (1 : Int32))) (by decide +kernel) rfl rfl (Nat.le_of_ble_eq_true rfl) dX7_item_62 (wdX7_11 cA q0 q1 q2 q3 q4 q5 q6 q7 q8 q9 q10 q11 q12 q13 f0_23 l0_31 l0_32 f1 f2 f3 f4 f5 f6 f7 f8 f9 f10 f11) (by subst ef0_23; rfl) ?_
      refine a_iload_n C0 dX7_item_65 rfl 0 rfl ?_
      refine a_if_ne C0 102 dX7_item_66 (by decide) (fun c_24 => ?_) (fun c_24 => ?_)
      · have h := ie_ c_24 h
        refine a_iload_n C0 dX7_item_102 rfl 0 rfl ?_
        refine a_bipush C0 (64 : Int32) dX7_item_103 (by decide) ?_
        refine a_icmp_ge C0 117 dX7_item_105 (by decide) (fun c_25 => ?_) (fun c_25 => ?_)
        · have h := it_ c_25 h
          refine a_iload_n C0 dX7_item_117 rfl 0 rfl ?_
          refine a_sipush C0 (128 : Int32) dX7_item_118 (by decide) ?_
          refine a_icmp_ge C0 136 dX7_item_121 (by decide) (fun c_26 => ?_) (fun c_26 => ?_)
          · have h := it_ c_26 h
            refine a_iload_n C0 dX7_item_136 rfl 0 rfl ?_
            refine a_sipush C0 (192 : Int32) dX7_item_137 (by decide) ?_
            refine a_icmp_ge C0 217 dX7_item_140 (by decide) (fun c_27 => ?_) (fun c_27 => ?_)
            · have h := it_ c_27 h
              refine a_iload_n C0 dX7_item_217 rfl 0 rfl ?_
              refine a_sipush C0 (255 : Int32) dX7_item_218 (by decide) ?_
              refine a_icmp_ge C0 232 dX7_item_221 (by decide) (fun c_28 => ?_) (fun c_28 => ?_)
              · have h := it_ c_28 h
                refine a_aload_n C0 dX7_item_232 rfl 2 rfl ?_
                refine a_iconst C0 (2 : Int32) dX7_item_233 (by decide) ?_
                obtain ⟨r_29, f0_30, h_31, h⟩ := bd2_e h
                refine a_callVi C0 (wdX7_11 cA q0 q1 q2 q3 q4 q5 q6 q7 q8 q9 q10 q11 q12 q13 f0_30 l0_31 l0_32 f1 f2 f3 f4 f5 f6 f7 f8 f9 f10 f11) (As := [.int (2 : Int32)]) (rest := []) (ctX7_has l D cA q0 q1 q2 q3 q4 q5 q6 q7 q8 q9 q10 q11 q12 q13 (2 : Int32) f0_23 l0_31 l0_32 f4 f6 h_31) (cwV 1 C0.1.2.2.2.2 gX7_item_X7_has rfl rfl rfl hdX7_has ⟨Nat.le_of_ble_eq_true rfl, Nat.le_of_ble_eq_true rfl⟩) [0, 4, 6] [1, 2, 3, 5, 7, 8, 9, 10, 11] [9, 0, 1, 2, 10, 3, 11, 4, 5, 6, 7, 8] rfl rfl rfl rfl (by decide) rfl rfl rfl rfl rfl rfl (Nat.le_of_ble_eq_true rfl) dX7_item_234 ⟨Nat.zero_le _, Nat.zero_le _⟩ ?_
                refine a_if_eq C0 282 dX7_item_237 (by decide) (fun c_32 => ?_) (fun c_32 => ?_)
                · have h := it_ c_32 h
                  obtain rfl := Option.some.inj h
                  exact a_vret C0 dX7_item_282 rfl
                · have h := ie_ c_32 h
                  refine a_sipush C0 (256 : Int32) dX7_item_240 (by decide) ?_
                  refine a_aload_n C0 dX7_item_243 rfl 2 rfl ?_
                  refine a_get C0 inX7_item_X7 0 rfl rfl 0 (by decide) lkX7_item_7 (fun _ h9 => h9) (.ref q1) rfl dX7_item_244 ?_
                  refine a_aload_n C0 dX7_item_247 rfl 2 rfl ?_
                  refine a_get C0 inX7_item_X7 0 rfl rfl 14 (by decide) lkX7_item_63 (fun _ h9 => h9) (.int (f0_30 14)) rfl dX7_item_248 ?_
                  obtain ⟨g_33, h⟩ := gi_e h
                  refine a_iald C0 1 0 rfl rfl g_33 dX7_item_251 ?_
                  refine a_imul C0 dX7_item_252 ?_
                  refine a_aload_n C0 dX7_item_253 rfl 2 rfl ?_
                  refine a_get C0 inX7_item_X7 0 rfl rfl 0 (by decide) lkX7_item_7 (fun _ h9 => h9) (.ref q1) rfl dX7_item_254 ?_
                  refine a_aload_n C0 dX7_item_257 rfl 2 rfl ?_
                  refine a_get C0 inX7_item_X7 0 rfl rfl 14 (by decide) lkX7_item_63 (fun _ h9 => h9) (.int (f0_30 14)) rfl dX7_item_258 ?_
                  refine a_iconst C0 (1 : Int32) dX7_item_261 (by decide) ?_
                  refine a_iadd C0 dX7_item_262 ?_
                  obtain ⟨g_34, h⟩ := gi_e h
                  refine a_iald C0 1 0 rfl rfl g_34 dX7_item_263 ?_
                  refine a_iadd C0 dX7_item_264 ?_
                  obtain ⟨x_35, ex_35, h⟩ := lt_e h
                  refine a_topi ex_35 ?_
                  refine a_istore_n C0 [(3, .int x_35), (2, .int x_22), (1, .int x_20), (0, .ref q0)] dX7_item_265 rfl (by decide) rfl ?_
                  refine a_aload_n C0 dX7_item_266 rfl 3 rfl ?_
                  refine a_dup C0 dX7_item_267 rfl ?_
                  refine a_get C0 inX7_item_X7 0 rfl rfl 14 (by decide) lkX7_item_63 (fun _ h9 => h9) (.int (f0_30 14)) rfl dX7_item_268 ?_
                  refine a_iconst C0 (2 : Int32) dX7_item_271 (by decide) ?_
                  refine a_iadd C0 dX7_item_272 ?_
                  obtain ⟨f0_36, ef0_36, h⟩ := lt_e h
                  refine a_put C0 inX7_item_X7 tyX7 tyX7_ok nmX7 0 rfl rfl 14 (by decide) lkX7_item_63 (fun _ h9 => h9) rfl (ty := .int) (v := .int ((f0_30 14) + (2 : Int32))) (by decide +kernel) rfl rfl (Nat.le_of_ble_eq_true rfl) dX7_item_273 (wdX7_11 cA q0 q1 q2 q3 q4 q5 q6 q7 q8 q9 q10 q11 q12 q13 f0_36 l0_31 l0_32 f1 f2 f3 f4 f5 f6 f7 f8 f9 f10 f11) (by subst ef0_36; rfl) ?_
                  refine a_aload_n C0 dX7_item_276 rfl 3 rfl ?_
                  refine a_iload_n C0 dX7_item_277 rfl 0 rfl ?_
                  refine a_iload_n C0 dX7_item_278 rfl 2 rfl ?_
                  obtain ⟨f0_37, f3_38, f8_39, h_40, h⟩ := bd3_e h
                  refine a_callVv C0 (wdX7_11 cA q0 q1 q2 q3 q4 q5 q6 q7 q8 q9 q10 q11 q12 q13 f0_37 l0_31 l0_32 f1 f2 f3_38 f4 f5 f6 f7 f8_39 f9 f10 f11) (As := [.int x_35, .int x_20]) (rest := []) (ctX7_raw l D cA q0 q1 q2 q3 q4 q5 q6 q7 q8 q9 q10 q11 q12 q13 N x_35 x_20 f0_36 l0_31 l0_32 f1 f2 f3 f4 f6 f7 f8 f9 f10 f11 h_40) (cwV 2 C0.1.2.2.2.2 gX7_item_X7_raw rfl rfl rfl hdX7_raw ⟨Nat.le_of_ble_eq_true rfl, Nat.le_of_ble_eq_true rfl⟩) [0, 1, 2, 3, 4, 6, 7, 8, 9, 10, 11] [5] [1, 2, 3, 4, 5, 0, 6, 7, 8, 9, 10, 11] rfl rfl rfl rfl (by decide) rfl rfl rfl rfl rfl rfl (Nat.le_of_ble_eq_true rfl) dX7_item_279 ⟨Nat.zero_le _, Nat.zero_le _⟩ ?_
                  obtain rfl := Option.some.inj h
                  exact a_vret C0 dX7_item_282 rfl
              · have h := ie_ c_28 h
                refine a_aload_n C0 dX7_item_224 rfl 2 rfl ?_
                refine a_iload_n C0 dX7_item_225 rfl 1 rfl ?_
                obtain ⟨f0_41, f2_42, f3_43, f4_44, f5_45, f6_46, f7_47, h_48, h⟩ := bd7_e h
                refine a_callVv C0 (wdX7_11 cA q0 q1 q2 q3 q4 q5 q6 q7 q8 q9 q10 q11 q12 q13 f0_41 l0_31 l0_32 f1 f2_42 f3_43 f4_44 f5_45 f6_46 f7_47 f8 f9 f10 f11) (As := [.int x_20]) (rest := []) (ctX7_inner l D cA q0 q1 q2 q3 q4 q5 q6 q7 q8 q9 q10 q11 q12 q13 x_20 f0_23 l0_31 l0_32 f1 f2 f3 f4 f5 f6 f7 h_48) (cwV 1 C0.1.2.2.2.2 gX7_item_X7_inner rfl rfl rfl hdX7_inner ⟨Nat.le_of_ble_eq_true rfl, Nat.le_of_ble_eq_true rfl⟩) [0, 1, 2, 3, 4, 5, 6, 7] [8, 9, 10, 11] [4, 5, 6, 7, 8, 9, 10, 11, 0, 1, 2, 3] rfl rfl rfl rfl (by decide) rfl rfl rfl rfl rfl rfl (Nat.le_of_ble_eq_true rfl) dX7_item_226 ⟨Nat.zero_le _, Nat.zero_le _⟩ ?_
                refine a_goto C0 282 dX7_item_229 (by decide) ?_
                obtain rfl := Option.some.inj h
                exact a_vret C0 dX7_item_282 rfl
            · have h := ie_ c_27 h
              refine a_aload_n C0 dX7_item_143 rfl 2 rfl ?_
              refine a_aload_n C0 dX7_item_144 rfl 2 rfl ?_
              refine a_get C0 inX7_item_X7 0 rfl rfl 28 (by decide) lkX7_item_113 (fun _ h9 => h9) (.int (f0_23 28)) rfl dX7_item_145 ?_
              refine a_iconst C0 (-1 : Int32) dX7_item_148 (by decide) ?_
              refine a_icmp_ne C0 156 dX7_item_149 (by decide) (fun c_49 => ?_) (fun c_49 => ?_)
              · have h := ie_ c_49 h
                refine a_aload_n C0 dX7_item_156 rfl 2 rfl ?_
                refine a_get C0 inX7_item_X7 0 rfl rfl 28 (by decide) lkX7_item_113 (fun _ h9 => h9) (.int (f0_23 28)) rfl dX7_item_157 ?_
                refine a_lv [2, 1, 0] (lv' := [(0, .ref q0), (1, .int x_20), (2, .int x_22)]) rfl ?_
                exact bwX7_item_160 C0 N l0_31 l0_32 f1 x_20 x_22 (f0_23 28) f0_23 f2 f3 f4 f5 f6 f7 f8 f9 f10 f11 h
              · have h := it_ c_49 h
                refine a_iload_n C0 dX7_item_152 rfl 1 rfl ?_
                refine a_goto C0 160 dX7_item_153 (by decide) ?_
                refine a_lv [2, 1, 0] (lv' := [(0, .ref q0), (1, .int x_20), (2, .int x_22)]) rfl ?_
                exact bwX7_item_160 C0 N l0_31 l0_32 f1 x_20 x_22 x_20 f0_23 f2 f3 f4 f5 f6 f7 f8 f9 f10 f11 h
          · have h := ie_ c_26 h
            refine a_aload_n C0 dX7_item_124 rfl 2 rfl ?_
            refine a_iload_n C0 dX7_item_125 rfl 0 rfl ?_
            refine a_bipush C0 (62 : Int32) dX7_item_126 (by decide) ?_
            refine a_isub C0 dX7_item_128 ?_
            refine a_iload_n C0 dX7_item_129 rfl 1 rfl ?_
            obtain ⟨f0_50, f3_51, f8_52, h_53, h⟩ := bd3_e h
            refine a_callVv C0 (wdX7_11 cA q0 q1 q2 q3 q4 q5 q6 q7 q8 q9 q10 q11 q12 q13 f0_50 l0_31 l0_32 f1 f2 f3_51 f4 f5 f6 f7 f8_52 f9 f10 f11) (As := [.int (x_22 - (62 : Int32)), .int x_20]) (rest := []) (ctX7_copy l D cA q0 q1 q2 q3 q4 q5 q6 q7 q8 q9 q10 q11 q12 q13 N (x_22 - (62 : Int32)) x_20 f0_23 l0_31 l0_32 f1 f2 f3 f4 f6 f7 f8 f9 f10 f11 h_53) (cwV 2 C0.1.2.2.2.2 gX7_item_X7_copy rfl rfl rfl hdX7_copy ⟨Nat.le_of_ble_eq_true rfl, Nat.le_of_ble_eq_true rfl⟩) [0, 1, 2, 3, 4, 6, 7, 8, 9, 10, 11] [5] [1, 2, 3, 4, 5, 0, 6, 7, 8, 9, 10, 11] rfl rfl rfl rfl (by decide) rfl rfl rfl rfl rfl rfl (Nat.le_of_ble_eq_true rfl) dX7_item_130 ⟨Nat.zero_le _, Nat.zero_le _⟩ ?_
            refine a_goto C0 282 dX7_item_133 (by decide) ?_
            obtain rfl := Option.some.inj h
            exact a_vret C0 dX7_item_282 rfl
        · have h := ie_ c_25 h
          refine a_aload_n C0 dX7_item_108 rfl 2 rfl ?_
          refine a_iload_n C0 dX7_item_109 rfl 0 rfl ?_
          refine a_iload_n C0 dX7_item_110 rfl 1 rfl ?_
          obtain ⟨f0_54, f3_55, f8_56, h_57, h⟩ := bd3_e h
          refine a_callVv C0 (wdX7_11 cA q0 q1 q2 q3 q4 q5 q6 q7 q8 q9 q10 q11 q12 q13 f0_54 l0_31 l0_32 f1 f2 f3_55 f4 f5 f6 f7 f8_56 f9 f10 f11) (As := [.int x_22, .int x_20]) (rest := []) (ctX7_raw l D cA q0 q1 q2 q3 q4 q5 q6 q7 q8 q9 q10 q11 q12 q13 N x_22 x_20 f0_23 l0_31 l0_32 f1 f2 f3 f4 f6 f7 f8 f9 f10 f11 h_57) (cwV 2 C0.1.2.2.2.2 gX7_item_X7_raw rfl rfl rfl hdX7_raw ⟨Nat.le_of_ble_eq_true rfl, Nat.le_of_ble_eq_true rfl⟩) [0, 1, 2, 3, 4, 6, 7, 8, 9, 10, 11] [5] [1, 2, 3, 4, 5, 0, 6, 7, 8, 9, 10, 11] rfl rfl rfl rfl (by decide) rfl rfl rfl rfl rfl rfl (Nat.le_of_ble_eq_true rfl) dX7_item_111 ⟨Nat.zero_le _, Nat.zero_le _⟩ ?_
          refine a_goto C0 282 dX7_item_114 (by decide) ?_
          obtain rfl := Option.some.inj h
          exact a_vret C0 dX7_item_282 rfl
      · have h := it_ c_24 h
        refine a_aload_n C0 dX7_item_69 rfl 2 rfl ?_
        refine a_get C0 inX7_item_X7 0 rfl rfl 10 (by decide) lkX7_item_94 (fun _ h9 => h9) (.int (f0_23 10)) rfl dX7_item_70 ?_
        refine a_aload_n C0 dX7_item_73 rfl 2 rfl ?_
        refine a_get C0 inX7_item_X7 0 rfl rfl 8 (by decide) lkX7_item_28 (fun _ h9 => h9) (.ref q7) rfl dX7_item_74 ?_
        refine a_aload_n C0 dX7_item_77 rfl 2 rfl ?_
        refine a_get C0 inX7_item_X7 0 rfl rfl 2 (by decide) lkX7_item_66 (fun _ h9 => h9) (.int (f0_23 2)) rfl dX7_item_78 ?_
        obtain ⟨g_58, h⟩ := gi_e h
        refine a_iald C0 7 0 rfl rfl g_58 dX7_item_81 ?_
        refine a_icmp_le C0 95 dX7_item_82 (by decide) (fun c_59 => ?_) (fun c_59 => ?_)
        · have h := it_ c_59 h
          refine a_aload_n C0 dX7_item_95 rfl 2 rfl ?_
          obtain ⟨f0_60, f3_61, f8_62, h_63, h⟩ := bd3_e h
          refine a_callVv C0 (wdX7_11 cA q0 q1 q2 q3 q4 q5 q6 q7 q8 q9 q10 q11 q12 q13 f0_60 l0_31 l0_32 f1 f2 f3_61 f4 f5 f6 f7 f8_62 f9 f10 f11) (As := []) (rest := []) (ctX7_end l D cA q0 q1 q2 q3 q4 q5 q6 q7 q8 q9 q10 q11 q12 q13 N f0_23 l0_31 l0_32 f1 f2 f3 f4 f5 f6 f7 f8 f9 f10 f11 h_63) (cwV 0 C0.1.2.2.2.2 gX7_item_X7_end rfl rfl rfl hdX7_end ⟨Nat.le_of_ble_eq_true rfl, Nat.le_of_ble_eq_true rfl⟩) [0, 1, 2, 3, 4, 5, 6, 7, 8, 9, 10, 11] [] [0, 1, 2, 3, 4, 5, 6, 7, 8, 9, 10, 11] rfl rfl rfl rfl (by decide) rfl rfl rfl rfl rfl rfl (Nat.le_of_ble_eq_true rfl) dX7_item_96 ⟨Nat.zero_le _, Nat.zero_le _⟩ ?_
          refine a_goto C0 282 dX7_item_99 (by decide) ?_
          obtain rfl := Option.some.inj h
          exact a_vret C0 dX7_item_282 rfl
        · have h := ie_ c_59 h
          refine a_aload_n C0 dX7_item_85 rfl 2 rfl ?_
          refine a_bipush C0 (7 : Int32) dX7_item_86 (by decide) ?_
          refine a_iload_n C0 dX7_item_88 rfl 1 rfl ?_
          obtain ⟨f0_64, h_65, h⟩ := bd1_e h
          refine a_callVv C0 (wdX7_11 cA q0 q1 q2 q3 q4 q5 q6 q7 q8 q9 q10 q11 q12 q13 f0_64 l0_31 l0_32 f1 f2 f3 f4 f5 f6 f7 f8 f9 f10 f11) (As := [.int (7 : Int32), .int x_20]) (rest := []) (ctX7_fault l D cA q0 q1 q2 q3 q4 q5 q6 q7 q8 q9 q10 q11 q12 q13 (7 : Int32) x_20 f0_23 l0_31 l0_32 h_65) (cwV 2 C0.1.2.2.2.2 gX7_item_X7_fault rfl rfl rfl hdX7_fault ⟨Nat.le_of_ble_eq_true rfl, Nat.le_of_ble_eq_true rfl⟩) [0] [1, 2, 3, 4, 5, 6, 7, 8, 9, 10, 11] [11, 0, 1, 2, 3, 4, 5, 6, 7, 8, 9, 10] rfl rfl rfl rfl (by decide) rfl rfl rfl rfl rfl rfl (Nat.le_of_ble_eq_true rfl) dX7_item_89 ⟨Nat.zero_le _, Nat.zero_le _⟩ ?_
          refine a_goto C0 282 dX7_item_92 (by decide) ?_
          obtain rfl := Option.some.inj h
          exact a_vret C0 dX7_item_282 rfl
    · have h := it_ c_17 h
      obtain rfl := Option.some.inj h
      exact a_vret C0 dX7_item_19 rfl
set_option maxRecDepth 100000 in
theorem ctX7_item (l : Launch) (D : va_G) (cA : ClassId) (q0 q1 q2 q3 q4 q5 q6 q7 q8 q9 q10 q11 q12 q13 : Nat) (N : Nat) (f0 : Nat → Int32) (l0_31 : Int64) (l0_32 : Int64) (f1 : Nat → Int32) (f2 : Nat → Int32) (f3 : Nat → Int32) (f4 : Nat → Int32) (f5 : Nat → Int32) (f6 : Nat → Int32) (f7 : Nat → Int32) (f8 : Nat → Int32) (f9 : Nat → Int32) (f10 : Nat → Int32) (f11 : Nat → Int32) {res : (Nat → Int32) × (Nat → Int32) × (Nat → Int32) × (Nat → Int32) × (Nat → Int32) × (Nat → Int32) × (Nat → Int32) × (Nat → Int32) × (Nat → Int32) × (Nat → Int32) × (Nat → Int32)} (h : pX7_item N f0 l0_31 l0_32 f1 f2 f3 f4 f5 f6 f7 f8 f9 f10 f11 = some res) : Ctv l yX7_item wsX7_item (rmX7_item) D vwCl [(cA, .int)] [.ref q0] (wdX7_11 cA q0 q1 q2 q3 q4 q5 q6 q7 q8 q9 q10 q11 q12 q13 f0 l0_31 l0_32 f1 f2 f3 f4 f5 f6 f7 f8 f9 f10 f11) (wdX7_11 cA q0 q1 q2 q3 q4 q5 q6 q7 q8 q9 q10 q11 q12 q13 res.1 l0_31 l0_32 f1 res.2.1 res.2.2.1 res.2.2.2.1 res.2.2.2.2.1 res.2.2.2.2.2.1 res.2.2.2.2.2.2.1 res.2.2.2.2.2.2.2.1 res.2.2.2.2.2.2.2.2.1 res.2.2.2.2.2.2.2.2.2.1 res.2.2.2.2.2.2.2.2.2.2) 0 0 :=
  ct_n (S := Unit) (maxL := 4) (cc := cX7_item) (by decide) rfl (Nat.le_of_ble_eq_true rfl) (fun p e s m below meth c _ C0 => bwX7_item C0 N f0 l0_31 l0_32 f1 f2 f3 f4 f5 f6 f7 f8 f9 f10 f11 h)
/-! PackDrawerModel.run -/
theorem hdX7_item : yX7_item.cls = RX7 ∧ yX7_item.cls ≠ "java/lang/invoke/MethodHandle" ∧ yX7_item.cls ≠ "java/lang/invoke/VarHandle" ∧ (parseMethodDescriptor yX7_item.desc).map (fun d => d.parameters.length) = some 0 := by decide +kernel
abbrev rmX7_run : Room := { frames := 6, cells := 0, slots := 0, locals := 140 }
theorem lkX7_run_100 : Cond.fieldLink RX7 100 RX7 (TX7 15).2.1 (TX7 15).2.2.1 ∈ wsX7_run := by decide +kernel
theorem inX7_run_X7 : ∀ w ∈ u_ws RX7 TX7 33, w ∈ wsX7_run := by decide +kernel
theorem lkX7_run_57 : Cond.fieldLink RX7 57 RX7 (TX7 16).2.1 (TX7 16).2.2.1 ∈ wsX7_run := by decide +kernel
theorem lkX7_run_88 : Cond.fieldLink RX7 88 RX7 (TX7 23).2.1 (TX7 23).2.2.1 ∈ wsX7_run := by decide +kernel
theorem lkX7_run_85 : Cond.fieldLink RX7 85 RX7 (TX7 24).2.1 (TX7 24).2.2.1 ∈ wsX7_run := by decide +kernel
theorem lkX7_run_76 : Cond.fieldLink RX7 76 RX7 (TX7 25).2.1 (TX7 25).2.2.1 ∈ wsX7_run := by decide +kernel
theorem lkX7_run_66 : Cond.fieldLink RX7 66 RX7 (TX7 2).2.1 (TX7 2).2.2.1 ∈ wsX7_run := by decide +kernel
theorem lkX7_run_94 : Cond.fieldLink RX7 94 RX7 (TX7 10).2.1 (TX7 10).2.2.1 ∈ wsX7_run := by decide +kernel
theorem lkX7_run_63 : Cond.fieldLink RX7 63 RX7 (TX7 14).2.1 (TX7 14).2.2.1 ∈ wsX7_run := by decide +kernel
theorem lkX7_run_60 : Cond.fieldLink RX7 60 RX7 (TX7 17).2.1 (TX7 17).2.2.1 ∈ wsX7_run := by decide +kernel
theorem lkX7_run_73 : Cond.fieldLink RX7 73 RX7 (TX7 18).2.1 (TX7 18).2.2.1 ∈ wsX7_run := by decide +kernel
theorem lkX7_run_82 : Cond.fieldLink RX7 82 RX7 (TX7 19).2.1 (TX7 19).2.2.1 ∈ wsX7_run := by decide +kernel
theorem lkX7_run_91 : Cond.fieldLink RX7 91 RX7 (TX7 20).2.1 (TX7 20).2.2.1 ∈ wsX7_run := by decide +kernel
theorem lkX7_run_97 : Cond.fieldLink RX7 97 RX7 (TX7 21).2.1 (TX7 21).2.2.1 ∈ wsX7_run := by decide +kernel
theorem lkX7_run_104 : Cond.fieldLink RX7 104 RX7 (TX7 22).2.1 (TX7 22).2.2.1 ∈ wsX7_run := by decide +kernel
theorem lkX7_run_107 : Cond.fieldLink RX7 107 RX7 (TX7 26).2.1 (TX7 26).2.2.1 ∈ wsX7_run := by decide +kernel
theorem lkX7_run_110 : Cond.fieldLink RX7 110 RX7 (TX7 27).2.1 (TX7 27).2.2.1 ∈ wsX7_run := by decide +kernel
theorem lkX7_run_113 : Cond.fieldLink RX7 113 RX7 (TX7 28).2.1 (TX7 28).2.2.1 ∈ wsX7_run := by decide +kernel
theorem lkX7_run_53 : Cond.fieldLink RX7 53 RX7 (TX7 1).2.1 (TX7 1).2.2.1 ∈ wsX7_run := by decide +kernel
def bFX7_run_95 (N : Nat) (a1 : Int32) (a2 : Int32) (a3 : Int32) (l0_31 : Int64) (l0_32 : Int64) (f1 : Nat → Int32) (rc95 : (Nat → Int32) → (Nat → Int32) → (Nat → Int32) → (Nat → Int32) → (Nat → Int32) → (Nat → Int32) → (Nat → Int32) → (Nat → Int32) → (Nat → Int32) → (Nat → Int32) → (Nat → Int32) → Option ((Nat → Int32) × (Nat → Int32) × (Nat → Int32) × (Nat → Int32) × (Nat → Int32) × (Nat → Int32) × (Nat → Int32) × (Nat → Int32) × (Nat → Int32) × (Nat → Int32) × (Nat → Int32))) (f0 : Nat → Int32) (f2 : Nat → Int32) (f3 : Nat → Int32) (f4 : Nat → Int32) (f5 : Nat → Int32) (f6 : Nat → Int32) (f7 : Nat → Int32) (f8 : Nat → Int32) (f9 : Nat → Int32) (f10 : Nat → Int32) (f11 : Nat → Int32) : Option ((Nat → Int32) × (Nat → Int32) × (Nat → Int32) × (Nat → Int32) × (Nat → Int32) × (Nat → Int32) × (Nat → Int32) × (Nat → Int32) × (Nat → Int32) × (Nat → Int32) × (Nat → Int32)) := if (f0 15) = 0 then if (f0 16) = 0 then bd11 (pX7_item N f0 l0_31 l0_32 f1 f2 f3 f4 f5 f6 f7 f8 f9 f10 f11) (fun f0_3 f2_4 f3_5 f4_6 f5_7 f6_8 f7_9 f8_10 f9_11 f10_12 f11_13 => rc95 f0_3 f2_4 f3_5 f4_6 f5_7 f6_8 f7_9 f8_10 f9_11 f10_12 f11_13) else some (f0, f2, f3, f4, f5, f6, f7, f8, f9, f10, f11) else some (f0, f2, f3, f4, f5, f6, f7, f8, f9, f10, f11)
def bfX7_run_95 (N : Nat) (a1 : Int32) (a2 : Int32) (a3 : Int32) (l0_31 : Int64) (l0_32 : Int64) (f1 : Nat → Int32) : Nat → (Nat → Int32) → (Nat → Int32) → (Nat → Int32) → (Nat → Int32) → (Nat → Int32) → (Nat → Int32) → (Nat → Int32) → (Nat → Int32) → (Nat → Int32) → (Nat → Int32) → (Nat → Int32) → Option ((Nat → Int32) × (Nat → Int32) × (Nat → Int32) × (Nat → Int32) × (Nat → Int32) × (Nat → Int32) × (Nat → Int32) × (Nat → Int32) × (Nat → Int32) × (Nat → Int32) × (Nat → Int32))
  | 0 => fun _ _ _ _ _ _ _ _ _ _ _ => none
  | n + 1 => bFX7_run_95 N a1 a2 a3 l0_31 l0_32 f1  (bfX7_run_95 N a1 a2 a3 l0_31 l0_32 f1  n)
def pX7_run (N : Nat) (a1 : Int32) (a2 : Int32) (a3 : Int32) (f0 : Nat → Int32) (l0_31 : Int64) (l0_32 : Int64) (f1 : Nat → Int32) (f2 : Nat → Int32) (f3 : Nat → Int32) (f4 : Nat → Int32) (f5 : Nat → Int32) (f6 : Nat → Int32) (f7 : Nat → Int32) (f8 : Nat → Int32) (f9 : Nat → Int32) (f10 : Nat → Int32) (f11 : Nat → Int32) : Option ((Nat → Int32) × (Nat → Int32) × (Nat → Int32) × (Nat → Int32) × (Nat → Int32) × (Nat → Int32) × (Nat → Int32) × (Nat → Int32) × (Nat → Int32) × (Nat → Int32) × (Nat → Int32)) := lt_ (upd f0 23 a1) (fun f0_15 => lt_ (upd f0_15 24 a2) (fun f0_16 => lt_ (upd f0_16 25 a3) (fun f0_17 => lt_ (upd f0_17 2 (0 : Int32)) (fun f0_18 => lt_ (upd f0_18 10 (0 : Int32)) (fun f0_19 => lt_ (upd f0_19 14 (0 : Int32)) (fun f0_20 => lt_ (upd f0_20 15 (0 : Int32)) (fun f0_21 => lt_ (upd f0_21 16 (0 : Int32)) (fun f0_22 => lt_ (upd f0_22 17 (-1 : Int32)) (fun f0_23 => lt_ (upd f0_23 18 (0 : Int32)) (fun f0_24 => lt_ (upd f0_24 19 (0 : Int32)) (fun f0_25 => lt_ (upd f0_25 20 (0 : Int32)) (fun f0_26 => lt_ (upd f0_26 21 (0 : Int32)) (fun f0_27 => lt_ (upd f0_27 22 (0 : Int32)) (fun f0_28 => lt_ (upd f0_28 26 (-1 : Int32)) (fun f0_29 => lt_ (upd f0_29 27 (-1 : Int32)) (fun f0_30 => lt_ (upd f0_30 28 (-1 : Int32)) (fun f0_31 => bd7 (pX7_opens (f0_31 1) (-1 : Int32) (-1 : Int32) f0_31 l0_31 l0_32 f2 f3 f4 f5 f6 f7) (fun f0_32 f2_33 f3_34 f4_35 f5_36 f6_37 f7_38 => bfX7_run_95 N a1 a2 a3 l0_31 l0_32 f1 N f0_32 f2_33 f3_34 f4_35 f5_36 f6_37 f7_38 f8 f9 f10 f11))))))))))))))))))
set_option maxHeartbeats 4000000 in
set_option maxRecDepth 100000 in
theorem bwX7_run_95 {p : Program} {l : Launch} {e : Env} {s : State} {m : MethodId} {args : Array Value} {below : List Frame} {meth : Method} {c : Code} {D : va_G} {A : Nat → Prop} {cA : ClassId} {q0 q1 q2 q3 q4 q5 q6 q7 q8 q9 q10 q11 q12 q13 : Nat} {res : (Nat → Int32) × (Nat → Int32) × (Nat → Int32) × (Nat → Int32) × (Nat → Int32) × (Nat → Int32) × (Nat → Int32) × (Nat → Int32) × (Nat → Int32) × (Nat → Int32) × (Nat → Int32)} (C0 : cx p s m args meth c cX7_run 4 RX7 wsX7_run none D vwCl [(cA, .int)] A) (N : Nat) (a1 : Int32) (a2 : Int32) (a3 : Int32) (l0_31 : Int64) (l0_32 : Int64) (f1 : Nat → Int32) : ∀ (n : Nat) (f0 : Nat → Int32) (f2 : Nat → Int32) (f3 : Nat → Int32) (f4 : Nat → Int32) (f5 : Nat → Int32) (f6 : Nat → Int32) (f7 : Nat → Int32) (f8 : Nat → Int32) (f9 : Nat → Int32) (f10 : Nat → Int32) (f11 : Nat → Int32), bfX7_run_95 N a1 a2 a3 l0_31 l0_32 f1  n f0 f2 f3 f4 f5 f6 f7 f8 f9 f10 f11 = some res → At_ p l e (rmX7_run) s m args below meth c D vwCl A 4 0 0 (Qv_ below args s D vwCl A (wdX7_11 cA q0 q1 q2 q3 q4 q5 q6 q7 q8 q9 q10 q11 q12 q13 res.1 l0_31 l0_32 f1 res.2.1 res.2.2.1 res.2.2.2.1 res.2.2.2.2.1 res.2.2.2.2.2.1 res.2.2.2.2.2.2.1 res.2.2.2.2.2.2.2.1 res.2.2.2.2.2.2.2.2.1 res.2.2.2.2.2.2.2.2.2.1 res.2.2.2.2.2.2.2.2.2.2)) 95 [(0, .ref q0), (1, .int a1), (2, .int a2), (3, .int a3)] [] (wdX7_11 cA q0 q1 q2 q3 q4 q5 q6 q7 q8 q9 q10 q11 q12 q13 f0 l0_31 l0_32 f1 f2 f3 f4 f5 f6 f7 f8 f9 f10 f11) := by
  intro n
  induction n with
  | zero => intro f0 f2 f3 f4 f5 f6 f7 f8 f9 f10 f11 h; cases h
  | succ n hrc95 =>
    intro f0 f2 f3 f4 f5 f6 f7 f8 f9 f10 f11 h
    replace h : bFX7_run_95 N a1 a2 a3 l0_31 l0_32 f1  (bfX7_run_95 N a1 a2 a3 l0_31 l0_32 f1  n) f0 f2 f3 f4 f5 f6 f7 f8 f9 f10 f11 = some res := h
    generalize bfX7_run_95 N a1 a2 a3 l0_31 l0_32 f1  n = rc95 at h hrc95
    unfold bFX7_run_95 at h
    refine a_aload_n C0 dX7_run_95 rfl 0 rfl ?_
    refine a_get C0 inX7_run_X7 0 rfl rfl 15 (by decide) lkX7_run_100 (fun _ h9 => h9) (.int (f0 15)) rfl dX7_run_96 ?_
    refine a_if_ne C0 116 dX7_run_99 (by decide) (fun c_1 => ?_) (fun c_1 => ?_)
    · have h := ie_ c_1 h
      obtain rfl := Option.some.inj h
      exact a_vret C0 dX7_run_116 rfl
    · have h := it_ c_1 h
      refine a_aload_n C0 dX7_run_102 rfl 0 rfl ?_
      refine a_get C0 inX7_run_X7 0 rfl rfl 16 (by decide) lkX7_run_57 (fun _ h9 => h9) (.int (f0 16)) rfl dX7_run_103 ?_
      refine a_if_ne C0 116 dX7_run_106 (by decide) (fun c_2 => ?_) (fun c_2 => ?_)
      · have h := ie_ c_2 h
        obtain rfl := Option.some.inj h
        exact a_vret C0 dX7_run_116 rfl
      · have h := it_ c_2 h
        refine a_aload_n C0 dX7_run_109 rfl 0 rfl ?_
        obtain ⟨f0_3, f2_4, f3_5, f4_6, f5_7, f6_8, f7_9, f8_10, f9_11, f10_12, f11_13, h_14, h⟩ := bd11_e h
        refine a_callVv C0 (wdX7_11 cA q0 q1 q2 q3 q4 q5 q6 q7 q8 q9 q10 q11 q12 q13 f0_3 l0_31 l0_32 f1 f2_4 f3_5 f4_6 f5_7 f6_8 f7_9 f8_10 f9_11 f10_12 f11_13) (As := []) (rest := []) (ctX7_item l D cA q0 q1 q2 q3 q4 q5 q6 q7 q8 q9 q10 q11 q12 q13 N f0 l0_31 l0_32 f1 f2 f3 f4 f5 f6 f7 f8 f9 f10 f11 h_14) (cwV 0 C0.1.2.2.2.2 gX7_run_X7_item rfl rfl rfl hdX7_item ⟨Nat.le_of_ble_eq_true rfl, Nat.le_of_ble_eq_true rfl⟩) [0, 1, 2, 3, 4, 5, 6, 7, 8, 9, 10, 11] [] [0, 1, 2, 3, 4, 5, 6, 7, 8, 9, 10, 11] rfl rfl rfl rfl (by decide) rfl rfl rfl rfl rfl rfl (Nat.le_of_ble_eq_true rfl) dX7_run_110 ⟨Nat.zero_le _, Nat.zero_le _⟩ ?_
        refine a_goto C0 95 dX7_run_113 (by decide) ?_
        exact hrc95 f0_3 f2_4 f3_5 f4_6 f5_7 f6_8 f7_9 f8_10 f9_11 f10_12 f11_13 h
set_option maxHeartbeats 4000000 in
set_option maxRecDepth 100000 in
theorem bwX7_run {p : Program} {l : Launch} {e : Env} {s : State} {m : MethodId} {args : Array Value} {below : List Frame} {meth : Method} {c : Code} {D : va_G} {A : Nat → Prop} {cA : ClassId} {q0 q1 q2 q3 q4 q5 q6 q7 q8 q9 q10 q11 q12 q13 : Nat} {res : (Nat → Int32) × (Nat → Int32) × (Nat → Int32) × (Nat → Int32) × (Nat → Int32) × (Nat → Int32) × (Nat → Int32) × (Nat → Int32) × (Nat → Int32) × (Nat → Int32) × (Nat → Int32)} (C0 : cx p s m args meth c cX7_run 4 RX7 wsX7_run none D vwCl [(cA, .int)] A) (N : Nat) (a1 : Int32) (a2 : Int32) (a3 : Int32) (f0 : Nat → Int32) (l0_31 : Int64) (l0_32 : Int64) (f1 : Nat → Int32) (f2 : Nat → Int32) (f3 : Nat → Int32) (f4 : Nat → Int32) (f5 : Nat → Int32) (f6 : Nat → Int32) (f7 : Nat → Int32) (f8 : Nat → Int32) (f9 : Nat → Int32) (f10 : Nat → Int32) (f11 : Nat → Int32) (h : pX7_run N a1 a2 a3 f0 l0_31 l0_32 f1 f2 f3 f4 f5 f6 f7 f8 f9 f10 f11 = some res) : At_ p l e (rmX7_run) s m args below meth c D vwCl A 4 0 0 (Qv_ below args s D vwCl A (wdX7_11 cA q0 q1 q2 q3 q4 q5 q6 q7 q8 q9 q10 q11 q12 q13 res.1 l0_31 l0_32 f1 res.2.1 res.2.2.1 res.2.2.2.1 res.2.2.2.2.1 res.2.2.2.2.2.1 res.2.2.2.2.2.2.1 res.2.2.2.2.2.2.2.1 res.2.2.2.2.2.2.2.2.1 res.2.2.2.2.2.2.2.2.2.1 res.2.2.2.2.2.2.2.2.2.2)) 0 [(0, .ref q0), (1, .int a1), (2, .int a2), (3, .int a3)] [] (wdX7_11 cA q0 q1 q2 q3 q4 q5 q6 q7 q8 q9 q10 q11 q12 q13 f0 l0_31 l0_32 f1 f2 f3 f4 f5 f6 f7 f8 f9 f10 f11) := by
  unfold pX7_run at h
  refine a_aload_n C0 dX7_run_0 rfl 0 rfl ?_
  refine a_iload_n C0 dX7_run_1 rfl 1 rfl ?_
  obtain ⟨f0_15, ef0_15, h⟩ := lt_e h
  refine a_put C0 inX7_run_X7 tyX7 tyX7_ok nmX7 0 rfl rfl 23 (by decide) lkX7_run_88 (fun _ h9 => h9) rfl (ty := .int) (v := .int a1) (by decide +kernel) rfl rfl (Nat.le_of_ble_eq_true rfl) dX7_run_2 (wdX7_11 cA q0 q1 q2 q3 q4 q5 q6 q7 q8 q9 q10 q11 q12 q13 f0_15 l0_31 l0_32 f1 f2 f3 f4 f5 f6 f7 f8 f9 f10 f11) (by subst ef0_15; rfl) ?_
  refine a_aload_n C0 dX7_run_5 rfl 0 rfl ?_
  refine a_iload_n C0 dX7_run_6 rfl 2 rfl ?_
  obtain ⟨f0_16, ef0_16, h⟩ := lt_e h
  refine a_put C0 inX7_run_X7 tyX7 tyX7_ok nmX7 0 rfl rfl 24 (by decide) lkX7_run_85 (fun _ h9 => h9) rfl (ty := .int) (v := .int a2) (by decide +kernel) rfl rfl (Nat.le_of_ble_eq_true rfl) dX7_run_7 (wdX7_11 cA q0 q1 q2 q3 q4 q5 q6 q7 q8 q9 q10 q11 q12 q13 f0_16 l0_31 l0_32 f1 f2 f3 f4 f5 f6 f7 f8 f9 f10 f11) (by subst ef0_16; rfl) ?_
  refine a_aload_n C0 dX7_run_10 rfl 0 rfl ?_
  refine a_iload_n C0 dX7_run_11 rfl 3 rfl ?_
  obtain ⟨f0_17, ef0_17, h⟩ := lt_e h
  refine a_put C0 inX7_run_X7 tyX7 tyX7_ok nmX7 0 rfl rfl 25 (by decide) lkX7_run_76 (fun _ h9 => h9) rfl (ty := .int) (v := .int a3) (by decide +kernel) rfl rfl (Nat.le_of_ble_eq_true rfl) dX7_run_12 (wdX7_11 cA q0 q1 q2 q3 q4 q5 q6 q7 q8 q9 q10 q11 q12 q13 f0_17 l0_31 l0_32 f1 f2 f3 f4 f5 f6 f7 f8 f9 f10 f11) (by subst ef0_17; rfl) ?_
  refine a_aload_n C0 dX7_run_15 rfl 0 rfl ?_
  refine a_iconst C0 (0 : Int32) dX7_run_16 (by decide) ?_
  obtain ⟨f0_18, ef0_18, h⟩ := lt_e h
  refine a_put C0 inX7_run_X7 tyX7 tyX7_ok nmX7 0 rfl rfl 2 (by decide) lkX7_run_66 (fun _ h9 => h9) rfl (ty := .int) (v := .int (0 : Int32)) (by decide +kernel) rfl rfl (Nat.le_of_ble_eq_true rfl) dX7_run_17 (wdX7_11 cA q0 q1 q2 q3 q4 q5 q6 q7 q8 q9 q10 q11 q12 q13 f0_18 l0_31 l0_32 f1 f2 f3 f4 f5 f6 f7 f8 f9 f10 f11) (by subst ef0_18; rfl) ?_
  refine a_aload_n C0 dX7_run_20 rfl 0 rfl ?_
  refine a_iconst C0 (0 : Int32) dX7_run_21 (by decide) ?_
  obtain ⟨f0_19, ef0_19, h⟩ := lt_e h
  refine a_put C0 inX7_run_X7 tyX7 tyX7_ok nmX7 0 rfl rfl 10 (by decide) lkX7_run_94 (fun _ h9 => h9) rfl (ty := .int) (v := .int (0 : Int32)) (by decide +kernel) rfl rfl (Nat.le_of_ble_eq_true rfl) dX7_run_22 (wdX7_11 cA q0 q1 q2 q3 q4 q5 q6 q7 q8 q9 q10 q11 q12 q13 f0_19 l0_31 l0_32 f1 f2 f3 f4 f5 f6 f7 f8 f9 f10 f11) (by subst ef0_19; rfl) ?_
  refine a_aload_n C0 dX7_run_25 rfl 0 rfl ?_
  refine a_iconst C0 (0 : Int32) dX7_run_26 (by decide) ?_
  obtain ⟨f0_20, ef0_20, h⟩ := lt_e h
  refine a_put C0 inX7_run_X7 tyX7 tyX7_ok nmX7 0 rfl rfl 14 (by decide) lkX7_run_63 (fun _ h9 => h9) rfl (ty := .int) (v := .int (0 : Int32)) (by decide +kernel) rfl rfl (Nat.le_of_ble_eq_true rfl) dX7_run_27 (wdX7_11 cA q0 q1 q2 q3 q4 q5 q6 q7 q8 q9 q10 q11 q12 q13 f0_20 l0_31 l0_32 f1 f2 f3 f4 f5 f6 f7 f8 f9 f10 f11) (by subst ef0_20; rfl) ?_
  refine a_aload_n C0 dX7_run_30 rfl 0 rfl ?_
  refine a_iconst C0 (0 : Int32) dX7_run_31 (by decide) ?_
  obtain ⟨f0_21, ef0_21, h⟩ := lt_e h
  refine a_put C0 inX7_run_X7 tyX7 tyX7_ok nmX7 0 rfl rfl 15 (by decide) lkX7_run_100 (fun _ h9 => h9) rfl (ty := .boolean) (v := .int (0 : Int32)) (by decide +kernel) rfl rfl (Nat.le_of_ble_eq_true rfl) dX7_run_32 (wdX7_11 cA q0 q1 q2 q3 q4 q5 q6 q7 q8 q9 q10 q11 q12 q13 f0_21 l0_31 l0_32 f1 f2 f3 f4 f5 f6 f7 f8 f9 f10 f11) (by subst ef0_21; rfl) ?_
  refine a_aload_n C0 dX7_run_35 rfl 0 rfl ?_
  refine a_iconst C0 (0 : Int32) dX7_run_36 (by decide) ?_
  obtain ⟨f0_22, ef0_22, h⟩ := lt_e h
  refine a_put C0 inX7_run_X7 tyX7 tyX7_ok nmX7 0 rfl rfl 16 (by decide) lkX7_run_57 (fun _ h9 => h9) rfl (ty := .int) (v := .int (0 : Int32)) (by decide +kernel) rfl rfl (Nat.le_of_ble_eq_true rfl) dX7_run_37 (wdX7_11 cA q0 q1 q2 q3 q4 q5 q6 q7 q8 q9 q10 q11 q12 q13 f0_22 l0_31 l0_32 f1 f2 f3 f4 f5 f6 f7 f8 f9 f10 f11) (by subst ef0_22; rfl) ?_
  refine a_aload_n C0 dX7_run_40 rfl 0 rfl ?_
  refine a_iconst C0 (-1 : Int32) dX7_run_41 (by decide) ?_
  obtain ⟨f0_23, ef0_23, h⟩ := lt_e h
  refine a_put C0 inX7_run_X7 tyX7 tyX7_ok nmX7 0 rfl rfl 17 (by decide) lkX7_run_60 (fun _ h9 => h9) rfl (ty := .int) (v := .int (-1 : Int32)) (by decide +kernel) rfl rfl (Nat.le_of_ble_eq_true rfl) dX7_run_42 (wdX7_11 cA q0 q1 q2 q3 q4 q5 q6 q7 q8 q9 q10 q11 q12 q13 f0_23 l0_31 l0_32 f1 f2 f3 f4 f5 f6 f7 f8 f9 f10 f11) (by subst ef0_23; rfl) ?_
  refine a_aload_n C0 dX7_run_45 rfl 0 rfl ?_
  refine a_iconst C0 (0 : Int32) dX7_run_46 (by decide) ?_
  obtain ⟨f0_24, ef0_24, h⟩ := lt_e h
  refine a_put C0 inX7_run_X7 tyX7 tyX7_ok nmX7 0 rfl rfl 18 (by decide) lkX7_run_73 (fun _ h9 => h9) rfl (ty := .int) (v := .int (0 : Int32)) (by decide +kernel) rfl rfl (Nat.le_of_ble_eq_true rfl) dX7_run_47 (wdX7_11 cA q0 q1 q2 q3 q4 q5 q6 q7 q8 q9 q10 q11 q12 q13 f0_24 l0_31 l0_32 f1 f2 f3 f4 f5 f6 f7 f8 f9 f10 f11) (by subst ef0_24; rfl) ?_
  refine a_aload_n C0 dX7_run_50 rfl 0 rfl ?_
  refine a_iconst C0 (0 : Int32) dX7_run_51 (by decide) ?_
  obtain ⟨f0_25, ef0_25, h⟩ := lt_e h
  refine a_put C0 inX7_run_X7 tyX7 tyX7_ok nmX7 0 rfl rfl 19 (by decide) lkX7_run_82 (fun _ h9 => h9) rfl (ty := .int) (v := .int (0 : Int32)) (by decide +kernel) rfl rfl (Nat.le_of_ble_eq_true rfl) dX7_run_52 (wdX7_11 cA q0 q1 q2 q3 q4 q5 q6 q7 q8 q9 q10 q11 q12 q13 f0_25 l0_31 l0_32 f1 f2 f3 f4 f5 f6 f7 f8 f9 f10 f11) (by subst ef0_25; rfl) ?_
  refine a_aload_n C0 dX7_run_55 rfl 0 rfl ?_
  refine a_iconst C0 (0 : Int32) dX7_run_56 (by decide) ?_
  obtain ⟨f0_26, ef0_26, h⟩ := lt_e h
  refine a_put C0 inX7_run_X7 tyX7 tyX7_ok nmX7 0 rfl rfl 20 (by decide) lkX7_run_91 (fun _ h9 => h9) rfl (ty := .int) (v := .int (0 : Int32)) (by decide +kernel) rfl rfl (Nat.le_of_ble_eq_true rfl) dX7_run_57 (wdX7_11 cA q0 q1 q2 q3 q4 q5 q6 q7 q8 q9 q10 q11 q12 q13 f0_26 l0_31 l0_32 f1 f2 f3 f4 f5 f6 f7 f8 f9 f10 f11) (by subst ef0_26; rfl) ?_
  refine a_aload_n C0 dX7_run_60 rfl 0 rfl ?_
  refine a_iconst C0 (0 : Int32) dX7_run_61 (by decide) ?_
  obtain ⟨f0_27, ef0_27, h⟩ := lt_e h
  refine a_put C0 inX7_run_X7 tyX7 tyX7_ok nmX7 0 rfl rfl 21 (by decide) lkX7_run_97 (fun _ h9 => h9) rfl (ty := .int) (v := .int (0 : Int32)) (by decide +kernel) rfl rfl (Nat.le_of_ble_eq_true rfl) dX7_run_62 (wdX7_11 cA q0 q1 q2 q3 q4 q5 q6 q7 q8 q9 q10 q11 q12 q13 f0_27 l0_31 l0_32 f1 f2 f3 f4 f5 f6 f7 f8 f9 f10 f11) (by subst ef0_27; rfl) ?_
  refine a_aload_n C0 dX7_run_65 rfl 0 rfl ?_
  refine a_iconst C0 (0 : Int32) dX7_run_66 (by decide) ?_
  obtain ⟨f0_28, ef0_28, h⟩ := lt_e h
  refine a_put C0 inX7_run_X7 tyX7 tyX7_ok nmX7 0 rfl rfl 22 (by decide) lkX7_run_104 (fun _ h9 => h9) rfl (ty := .int) (v := .int (0 : Int32)) (by decide +kernel) rfl rfl (Nat.le_of_ble_eq_true rfl) dX7_run_67 (wdX7_11 cA q0 q1 q2 q3 q4 q5 q6 q7 q8 q9 q10 q11 q12 q13 f0_28 l0_31 l0_32 f1 f2 f3 f4 f5 f6 f7 f8 f9 f10 f11) (by subst ef0_28; rfl) ?_
  refine a_aload_n C0 dX7_run_70 rfl 0 rfl ?_
  refine a_iconst C0 (-1 : Int32) dX7_run_71 (by decide) ?_
  obtain ⟨f0_29, ef0_29, h⟩ := lt_e h
  refine a_put C0 inX7_run_X7 tyX7 tyX7_ok nmX7 0 rfl rfl 26 (by decide) lkX7_run_107 (fun _ h9 => h9) rfl (ty := .int) (v := .int (-1 : Int32)) (by decide +kernel) rfl rfl (Nat.le_of_ble_eq_true rfl) dX7_run_72 (wdX7_11 cA q0 q1 q2 q3 q4 q5 q6 q7 q8 q9 q10 q11 q12 q13 f0_29 l0_31 l0_32 f1 f2 f3 f4 f5 f6 f7 f8 f9 f10 f11) (by subst ef0_29; rfl) ?_
  refine a_aload_n C0 dX7_run_75 rfl 0 rfl ?_
  refine a_iconst C0 (-1 : Int32) dX7_run_76 (by decide) ?_
  obtain ⟨f0_30, ef0_30, h⟩ := lt_e h
  refine a_put C0 inX7_run_X7 tyX7 tyX7_ok nmX7 0 rfl rfl 27 (by decide) lkX7_run_110 (fun _ h9 => h9) rfl (ty := .int) (v := .int (-1 : Int32)) (by decide +kernel) rfl rfl (Nat.le_of_ble_eq_true rfl) dX7_run_77 (wdX7_11 cA q0 q1 q2 q3 q4 q5 q6 q7 q8 q9 q10 q11 q12 q13 f0_30 l0_31 l0_32 f1 f2 f3 f4 f5 f6 f7 f8 f9 f10 f11) (by subst ef0_30; rfl) ?_
  refine a_aload_n C0 dX7_run_80 rfl 0 rfl ?_
  refine a_iconst C0 (-1 : Int32) dX7_run_81 (by decide) ?_
  obtain ⟨f0_31, ef0_31, h⟩ := lt_e h
  refine a_put C0 inX7_run_X7 tyX7 tyX7_ok nmX7 0 rfl rfl 28 (by decide) lkX7_run_113 (fun _ h9 => h9) rfl (ty := .int) (v := .int (-1 : Int32)) (by decide +kernel) rfl rfl (Nat.le_of_ble_eq_true rfl) dX7_run_82 (wdX7_11 cA q0 q1 q2 q3 q4 q5 q6 q7 q8 q9 q10 q11 q12 q13 f0_31 l0_31 l0_32 f1 f2 f3 f4 f5 f6 f7 f8 f9 f10 f11) (by subst ef0_31; rfl) ?_
  refine a_aload_n C0 dX7_run_85 rfl 0 rfl ?_
  refine a_aload_n C0 dX7_run_86 rfl 0 rfl ?_
  refine a_get C0 inX7_run_X7 0 rfl rfl 1 (by decide) lkX7_run_53 (fun _ h9 => h9) (.int (f0_31 1)) rfl dX7_run_87 ?_
  refine a_iconst C0 (-1 : Int32) dX7_run_90 (by decide) ?_
  refine a_iconst C0 (-1 : Int32) dX7_run_91 (by decide) ?_
  obtain ⟨f0_32, f2_33, f3_34, f4_35, f5_36, f6_37, f7_38, h_39, h⟩ := bd7_e h
  refine a_callVv C0 (wdX7_11 cA q0 q1 q2 q3 q4 q5 q6 q7 q8 q9 q10 q11 q12 q13 f0_32 l0_31 l0_32 f1 f2_33 f3_34 f4_35 f5_36 f6_37 f7_38 f8 f9 f10 f11) (As := [.int (f0_31 1), .int (-1 : Int32), .int (-1 : Int32)]) (rest := []) (ctX7_opens l D cA q0 q1 q2 q3 q4 q5 q6 q7 q8 q9 q10 q11 q12 q13 (f0_31 1) (-1 : Int32) (-1 : Int32) f0_31 l0_31 l0_32 f2 f3 f4 f5 f6 f7 h_39) (cwV 3 C0.1.2.2.2.2 gX7_run_X7_opens rfl rfl rfl hdX7_opens ⟨Nat.le_of_ble_eq_true rfl, Nat.le_of_ble_eq_true rfl⟩) [0, 2, 3, 4, 5, 6, 7] [1, 8, 9, 10, 11] [5, 0, 6, 7, 8, 9, 10, 11, 1, 2, 3, 4] rfl rfl rfl rfl (by decide) rfl rfl rfl rfl rfl rfl (Nat.le_of_ble_eq_true rfl) dX7_run_92 ⟨Nat.zero_le _, Nat.zero_le _⟩ ?_
  exact bwX7_run_95 C0 N a1 a2 a3 l0_31 l0_32 f1 N f0_32 f2_33 f3_34 f4_35 f5_36 f6_37 f7_38 f8 f9 f10 f11 h
set_option maxRecDepth 100000 in
theorem ctX7_run (l : Launch) (D : va_G) (cA : ClassId) (q0 q1 q2 q3 q4 q5 q6 q7 q8 q9 q10 q11 q12 q13 : Nat) (N : Nat) (a1 : Int32) (a2 : Int32) (a3 : Int32) (f0 : Nat → Int32) (l0_31 : Int64) (l0_32 : Int64) (f1 : Nat → Int32) (f2 : Nat → Int32) (f3 : Nat → Int32) (f4 : Nat → Int32) (f5 : Nat → Int32) (f6 : Nat → Int32) (f7 : Nat → Int32) (f8 : Nat → Int32) (f9 : Nat → Int32) (f10 : Nat → Int32) (f11 : Nat → Int32) {res : (Nat → Int32) × (Nat → Int32) × (Nat → Int32) × (Nat → Int32) × (Nat → Int32) × (Nat → Int32) × (Nat → Int32) × (Nat → Int32) × (Nat → Int32) × (Nat → Int32) × (Nat → Int32)} (h : pX7_run N a1 a2 a3 f0 l0_31 l0_32 f1 f2 f3 f4 f5 f6 f7 f8 f9 f10 f11 = some res) : Ctv l yX7_run wsX7_run (rmX7_run) D vwCl [(cA, .int)] [.ref q0, .int a1, .int a2, .int a3] (wdX7_11 cA q0 q1 q2 q3 q4 q5 q6 q7 q8 q9 q10 q11 q12 q13 f0 l0_31 l0_32 f1 f2 f3 f4 f5 f6 f7 f8 f9 f10 f11) (wdX7_11 cA q0 q1 q2 q3 q4 q5 q6 q7 q8 q9 q10 q11 q12 q13 res.1 l0_31 l0_32 f1 res.2.1 res.2.2.1 res.2.2.2.1 res.2.2.2.2.1 res.2.2.2.2.2.1 res.2.2.2.2.2.2.1 res.2.2.2.2.2.2.2.1 res.2.2.2.2.2.2.2.2.1 res.2.2.2.2.2.2.2.2.2.1 res.2.2.2.2.2.2.2.2.2.2) 0 0 :=
  ct_n (S := Unit) (maxL := 4) (cc := cX7_run) (by decide) rfl (Nat.le_of_ble_eq_true rfl) (fun p e s m below meth c _ C0 => bwX7_run C0 N a1 a2 a3 f0 l0_31 l0_32 f1 f2 f3 f4 f5 f6 f7 f8 f9 f10 f11 h)
/-! PackDrawerModel.open -/
abbrev wdX7_12 (cA : ClassId) (q0 q1 q2 q3 q4 q5 q6 q7 q8 q9 q10 q11 q12 q13 : Nat) (f0 : Nat → Int32) (l0_31 : Int64) (l0_32 : Int64) (f1 : Nat → Int32) (f2 : Nat → Int32) (f3 : Nat → Int32) (f4 : Nat → Int32) (f5 : Nat → Int32) (f6 : Nat → Int32) (f7 : Nat → Int32) (f8 : Nat → Int32) (f9 : Nat → Int32) (f10 : Nat → Int32) (f11 : Nat → Int32) (f12 : Nat → Int32) (f13 : Nat → Int32) : va_W := [(q0, .inr (7, [.ref q1, .int (f0 1), .int (f0 2), .ref q2, .ref q3, .ref q4, .ref q5, .ref q6, .ref q7, .ref q8, .int (f0 10), .ref q9, .ref q10, .ref q11, .int (f0 14), .int (f0 15), .int (f0 16), .int (f0 17), .int (f0 18), .int (f0 19), .int (f0 20), .int (f0 21), .int (f0 22), .int (f0 23), .int (f0 24), .int (f0 25), .int (f0 26), .int (f0 27), .int (f0 28), .ref q12, .ref q13, .long l0_31, .long l0_32])), (q1, .inl (cA, 160, .inl f1)), (q2, .inl (cA, 6, .inl f2)), (q3, .inl (cA, 6, .inl f3)), (q4, .inl (cA, 6, .inl f4)), (q5, .inl (cA, 6, .inl f5)), (q6, .inl (cA, 6, .inl f6)), (q7, .inl (cA, 6, .inl f7)), (q8, .inl (cA, 2000, .inl f8)), (q9, .inl (cA, 170, .inl f9)), (q10, .inl (cA, 170, .inl f10)), (q11, .inl (cA, 170, .inl f11)), (q12, .inl (cA, 7, .inl f12)), (q13, .inl (cA, 400, .inl f13))]
theorem hdX7_isBound : yX7_isBound.cls = RX7 ∧ yX7_isBound.cls ≠ "java/lang/invoke/MethodHandle" ∧ yX7_isBound.cls ≠ "java/lang/invoke/VarHandle" ∧ (parseMethodDescriptor yX7_isBound.desc).map (fun d => d.parameters.length) = some 3 := by decide +kernel
theorem hdX7_run : yX7_run.cls = RX7 ∧ yX7_run.cls ≠ "java/lang/invoke/MethodHandle" ∧ yX7_run.cls ≠ "java/lang/invoke/VarHandle" ∧ (parseMethodDescriptor yX7_run.desc).map (fun d => d.parameters.length) = some 3 := by decide +kernel
abbrev rmX7_open : Room := { frames := 7, cells := 0, slots := 0, locals := 163 }
theorem lkX7_open_16 : Cond.fieldLink RX7 16 RX7 (TX7 4).2.1 (TX7 4).2.2.1 ∈ wsX7_open := by decide +kernel
theorem inX7_open_X7 : ∀ w ∈ u_ws RX7 TX7 33, w ∈ wsX7_open := by decide +kernel
theorem lkX7_open_57 : Cond.fieldLink RX7 57 RX7 (TX7 16).2.1 (TX7 16).2.2.1 ∈ wsX7_open := by decide +kernel
theorem lkX7_open_46 : Cond.fieldLink RX7 46 RX7 (TX7 30).2.1 (TX7 30).2.2.1 ∈ wsX7_open := by decide +kernel
theorem lkX7_open_31 : Cond.fieldLink RX7 31 RX7 (TX7 9).2.1 (TX7 9).2.2.1 ∈ wsX7_open := by decide +kernel
theorem lkX7_open_43 : Cond.fieldLink RX7 43 RX7 (TX7 29).2.1 (TX7 29).2.2.1 ∈ wsX7_open := by decide +kernel
theorem lkX7_open_60 : Cond.fieldLink RX7 60 RX7 (TX7 17).2.1 (TX7 17).2.2.1 ∈ wsX7_open := by decide +kernel
theorem lkX7_open_73 : Cond.fieldLink RX7 73 RX7 (TX7 18).2.1 (TX7 18).2.2.1 ∈ wsX7_open := by decide +kernel
theorem lkX7_open_91 : Cond.fieldLink RX7 91 RX7 (TX7 20).2.1 (TX7 20).2.2.1 ∈ wsX7_open := by decide +kernel
theorem lkX7_open_97 : Cond.fieldLink RX7 97 RX7 (TX7 21).2.1 (TX7 21).2.2.1 ∈ wsX7_open := by decide +kernel
theorem lkX7_open_104 : Cond.fieldLink RX7 104 RX7 (TX7 22).2.1 (TX7 22).2.2.1 ∈ wsX7_open := by decide +kernel
def bFX7_open_106 (N : Nat) (a1 : Int32) (a2 : Int32) (a3 : Int32) (l0_31 : Int64) (l0_32 : Int64) (f1 : Nat → Int32) (rc106 : Int32 → (Nat → Int32) → (Nat → Int32) → (Nat → Int32) → (Nat → Int32) → (Nat → Int32) → (Nat → Int32) → (Nat → Int32) → (Nat → Int32) → (Nat → Int32) → (Nat → Int32) → (Nat → Int32) → (Nat → Int32) → (Nat → Int32) → Option (Int32 × (Nat → Int32) × (Nat → Int32) × (Nat → Int32) × (Nat → Int32) × (Nat → Int32) × (Nat → Int32) × (Nat → Int32) × (Nat → Int32) × (Nat → Int32) × (Nat → Int32) × (Nat → Int32) × (Nat → Int32) × (Nat → Int32))) (v4 : Int32) (f0 : Nat → Int32) (f2 : Nat → Int32) (f3 : Nat → Int32) (f4 : Nat → Int32) (f5 : Nat → Int32) (f6 : Nat → Int32) (f7 : Nat → Int32) (f8 : Nat → Int32) (f9 : Nat → Int32) (f10 : Nat → Int32) (f11 : Nat → Int32) (f12 : Nat → Int32) (f13 : Nat → Int32) : Option (Int32 × (Nat → Int32) × (Nat → Int32) × (Nat → Int32) × (Nat → Int32) × (Nat → Int32) × (Nat → Int32) × (Nat → Int32) × (Nat → Int32) × (Nat → Int32) × (Nat → Int32) × (Nat → Int32) × (Nat → Int32) × (Nat → Int32)) := gi_ (0 : Int32) 6 (if (f3 (0 : Int32).toNatClampNeg) ≤ v4 then if (f0 16) = 0 then gi_ (0 : Int32) 6 (some ((f3 (0 : Int32).toNatClampNeg), f0, f2, f3, f4, f5, f6, f7, f8, f9, f10, f11, f12, f13)) else some (((-10 : Int32) - (f0 16)), f0, f2, f3, f4, f5, f6, f7, f8, f9, f10, f11, f12, f13) else gi_ v4 2000 (gi_ v4 400 (lt_ (upd f13 v4.toNatClampNeg (f8 v4.toNatClampNeg)) (fun f13_7 => lt_ ((v4 + (1 : Int32))) (fun x_8 => rc106 x_8 f0 f2 f3 f4 f5 f6 f7 f8 f9 f10 f11 f12 f13_7)))))
def bfX7_open_106 (N : Nat) (a1 : Int32) (a2 : Int32) (a3 : Int32) (l0_31 : Int64) (l0_32 : Int64) (f1 : Nat → Int32) : Nat → Int32 → (Nat → Int32) → (Nat → Int32) → (Nat → Int32) → (Nat → Int32) → (Nat → Int32) → (Nat → Int32) → (Nat → Int32) → (Nat → Int32) → (Nat → Int32) → (Nat → Int32) → (Nat → Int32) → (Nat → Int32) → (Nat → Int32) → Option (Int32 × (Nat → Int32) × (Nat → Int32) × (Nat → Int32) × (Nat → Int32) × (Nat → Int32) × (Nat → Int32) × (Nat → Int32) × (Nat → Int32) × (Nat → Int32) × (Nat → Int32) × (Nat → Int32) × (Nat → Int32) × (Nat → Int32))
  | 0 => fun _ _ _ _ _ _ _ _ _ _ _ _ _ _ => none
  | n + 1 => bFX7_open_106 N a1 a2 a3 l0_31 l0_32 f1  (bfX7_open_106 N a1 a2 a3 l0_31 l0_32 f1  n)
def bfX7_open_39 (N : Nat) (a1 : Int32) (a2 : Int32) (a3 : Int32) (l0_31 : Int64) (l0_32 : Int64) (f1 : Nat → Int32) (s1 : Int32) (s2 : Int32) (f0 : Nat → Int32) (f2 : Nat → Int32) (f3 : Nat → Int32) (f4 : Nat → Int32) (f5 : Nat → Int32) (f6 : Nat → Int32) (f7 : Nat → Int32) (f8 : Nat → Int32) (f9 : Nat → Int32) (f10 : Nat → Int32) (f11 : Nat → Int32) (f12 : Nat → Int32) (f13 : Nat → Int32) : Option (Int32 × (Nat → Int32) × (Nat → Int32) × (Nat → Int32) × (Nat → Int32) × (Nat → Int32) × (Nat → Int32) × (Nat → Int32) × (Nat → Int32) × (Nat → Int32) × (Nat → Int32) × (Nat → Int32) × (Nat → Int32) × (Nat → Int32)) := gi_ s1 7 (lt_ (upd f12 s1.toNatClampNeg s2) (fun f12_10 => gi_ (1 : Int32) 7 (lt_ (upd f12_10 (1 : Int32).toNatClampNeg (f0 17)) (fun f12_12 => gi_ (2 : Int32) 7 (lt_ (upd f12_12 (2 : Int32).toNatClampNeg (f0 18)) (fun f12_14 => gi_ (3 : Int32) 7 (lt_ (upd f12_14 (3 : Int32).toNatClampNeg (f0 20)) (fun f12_16 => gi_ (0 : Int32) 6 (gi_ (4 : Int32) 7 (lt_ (upd f12_16 (4 : Int32).toNatClampNeg (f3 (0 : Int32).toNatClampNeg)) (fun f12_19 => gi_ (5 : Int32) 7 (lt_ (upd f12_19 (5 : Int32).toNatClampNeg (f0 21)) (fun f12_21 => gi_ (6 : Int32) 7 (lt_ (upd f12_21 (6 : Int32).toNatClampNeg (f0 22)) (fun f12_23 => bfX7_open_106 N a1 a2 a3 l0_31 l0_32 f1 N (0 : Int32) f0 f2 f3 f4 f5 f6 f7 f8 f9 f10 f11 f12_23 f13)))))))))))))))
def pX7_open (N : Nat) (a1 : Int32) (a2 : Int32) (a3 : Int32) (f0 : Nat → Int32) (l0_31 : Int64) (l0_32 : Int64) (f1 : Nat → Int32) (f2 : Nat → Int32) (f3 : Nat → Int32) (f4 : Nat → Int32) (f5 : Nat → Int32) (f6 : Nat → Int32) (f7 : Nat → Int32) (f8 : Nat → Int32) (f9 : Nat → Int32) (f10 : Nat → Int32) (f11 : Nat → Int32) (f12 : Nat → Int32) (f13 : Nat → Int32) : Option (Int32 × (Nat → Int32) × (Nat → Int32) × (Nat → Int32) × (Nat → Int32) × (Nat → Int32) × (Nat → Int32) × (Nat → Int32) × (Nat → Int32) × (Nat → Int32) × (Nat → Int32) × (Nat → Int32) × (Nat → Int32) × (Nat → Int32)) := bd1 (pX7_isBound a1 a2 a3) (fun r_24 => if r_24 = 0 then some ((-2 : Int32), f0, f2, f3, f4, f5, f6, f7, f8, f9, f10, f11, f12, f13) else bd11 (pX7_run N a1 a2 a3 f0 l0_31 l0_32 f1 f2 f3 f4 f5 f6 f7 f8 f9 f10 f11) (fun f0_27 f2_28 f3_29 f4_30 f5_31 f6_32 f7_33 f8_34 f9_35 f10_36 f11_37 => if (f0_27 16) = 0 then bfX7_open_39 N a1 a2 a3 l0_31 l0_32 f1 (0 : Int32) (-1 : Int32) f0_27 f2_28 f3_29 f4_30 f5_31 f6_32 f7_33 f8_34 f9_35 f10_36 f11_37 f12 f13 else bfX7_open_39 N a1 a2 a3 l0_31 l0_32 f1 (0 : Int32) (f0_27 16) f0_27 f2_28 f3_29 f4_30 f5_31 f6_32 f7_33 f8_34 f9_35 f10_36 f11_37 f12 f13))
set_option maxHeartbeats 4000000 in
set_option maxRecDepth 100000 in
theorem bwX7_open_106 {p : Program} {l : Launch} {e : Env} {s : State} {m : MethodId} {args : Array Value} {below : List Frame} {meth : Method} {c : Code} {D : va_G} {A : Nat → Prop} {cA : ClassId} {q0 q1 q2 q3 q4 q5 q6 q7 q8 q9 q10 q11 q12 q13 : Nat} {res : Int32 × (Nat → Int32) × (Nat → Int32) × (Nat → Int32) × (Nat → Int32) × (Nat → Int32) × (Nat → Int32) × (Nat → Int32) × (Nat → Int32) × (Nat → Int32) × (Nat → Int32) × (Nat → Int32) × (Nat → Int32) × (Nat → Int32)} (C0 : cx p s m args meth c cX7_open 5 RX7 wsX7_open (some .int) D vwCl [(cA, .int)] A) (N : Nat) (a1 : Int32) (a2 : Int32) (a3 : Int32) (l0_31 : Int64) (l0_32 : Int64) (f1 : Nat → Int32) : ∀ (n : Nat) (v4 : Int32) (f0 : Nat → Int32) (f2 : Nat → Int32) (f3 : Nat → Int32) (f4 : Nat → Int32) (f5 : Nat → Int32) (f6 : Nat → Int32) (f7 : Nat → Int32) (f8 : Nat → Int32) (f9 : Nat → Int32) (f10 : Nat → Int32) (f11 : Nat → Int32) (f12 : Nat → Int32) (f13 : Nat → Int32), bfX7_open_106 N a1 a2 a3 l0_31 l0_32 f1  n v4 f0 f2 f3 f4 f5 f6 f7 f8 f9 f10 f11 f12 f13 = some res → At_ p l e (rmX7_open) s m args below meth c D vwCl A 5 0 0 (Qi_ below args s D vwCl A (wdX7_12 cA q0 q1 q2 q3 q4 q5 q6 q7 q8 q9 q10 q11 q12 q13 res.2.1 l0_31 l0_32 f1 res.2.2.1 res.2.2.2.1 res.2.2.2.2.1 res.2.2.2.2.2.1 res.2.2.2.2.2.2.1 res.2.2.2.2.2.2.2.1 res.2.2.2.2.2.2.2.2.1 res.2.2.2.2.2.2.2.2.2.1 res.2.2.2.2.2.2.2.2.2.2.1 res.2.2.2.2.2.2.2.2.2.2.2.1 res.2.2.2.2.2.2.2.2.2.2.2.2.1 res.2.2.2.2.2.2.2.2.2.2.2.2.2) res.1) 106 [(0, .ref q0), (1, .int a1), (2, .int a2), (3, .int a3), (4, .int v4)] [] (wdX7_12 cA q0 q1 q2 q3 q4 q5 q6 q7 q8 q9 q10 q11 q12 q13 f0 l0_31 l0_32 f1 f2 f3 f4 f5 f6 f7 f8 f9 f10 f11 f12 f13) := by
  intro n
  induction n with
  | zero => intro v4 f0 f2 f3 f4 f5 f6 f7 f8 f9 f10 f11 f12 f13 h; cases h
  | succ n hrc106 =>
    intro v4 f0 f2 f3 f4 f5 f6 f7 f8 f9 f10 f11 f12 f13 h
    replace h : bFX7_open_106 N a1 a2 a3 l0_31 l0_32 f1  (bfX7_open_106 N a1 a2 a3 l0_31 l0_32 f1  n) v4 f0 f2 f3 f4 f5 f6 f7 f8 f9 f10 f11 f12 f13 = some res := h
    generalize bfX7_open_106 N a1 a2 a3 l0_31 l0_32 f1  n = rc106 at h hrc106
    unfold bFX7_open_106 at h
    refine a_iload C0 dX7_open_106 4 rfl ?_
    refine a_aload_n C0 dX7_open_108 rfl 0 rfl ?_
    refine a_get C0 inX7_open_X7 0 rfl rfl 4 (by decide) lkX7_open_16 (fun _ h9 => h9) (.ref q3) rfl dX7_open_109 ?_
    refine a_iconst C0 (0 : Int32) dX7_open_112 (by decide) ?_
    obtain ⟨g_1, h⟩ := gi_e h
    refine a_iald C0 3 0 rfl rfl g_1 dX7_open_113 ?_
    refine a_icmp_ge C0 137 dX7_open_114 (by decide) (fun c_2 => ?_) (fun c_2 => ?_)
    · have h := it_ c_2 h
      refine a_aload_n C0 dX7_open_137 rfl 0 rfl ?_
      refine a_get C0 inX7_open_X7 0 rfl rfl 16 (by decide) lkX7_open_57 (fun _ h9 => h9) (.int (f0 16)) rfl dX7_open_138 ?_
      refine a_if_ne C0 153 dX7_open_141 (by decide) (fun c_3 => ?_) (fun c_3 => ?_)
      · have h := ie_ c_3 h
        refine a_bipush C0 (-10 : Int32) dX7_open_153 (by decide) ?_
        refine a_aload_n C0 dX7_open_155 rfl 0 rfl ?_
        refine a_get C0 inX7_open_X7 0 rfl rfl 16 (by decide) lkX7_open_57 (fun _ h9 => h9) (.int (f0 16)) rfl dX7_open_156 ?_
        refine a_isub C0 dX7_open_159 ?_
        obtain rfl := Option.some.inj h
        exact a_iret C0 dX7_open_160 rfl rfl
      · have h := it_ c_3 h
        refine a_aload_n C0 dX7_open_144 rfl 0 rfl ?_
        refine a_get C0 inX7_open_X7 0 rfl rfl 4 (by decide) lkX7_open_16 (fun _ h9 => h9) (.ref q3) rfl dX7_open_145 ?_
        refine a_iconst C0 (0 : Int32) dX7_open_148 (by decide) ?_
        obtain ⟨g_4, h⟩ := gi_e h
        refine a_iald C0 3 0 rfl rfl g_4 dX7_open_149 ?_
        refine a_goto C0 160 dX7_open_150 (by decide) ?_
        obtain rfl := Option.some.inj h
        exact a_iret C0 dX7_open_160 rfl rfl
    · have h := ie_ c_2 h
      refine a_aload_n C0 dX7_open_117 rfl 0 rfl ?_
      refine a_get C0 inX7_open_X7 0 rfl rfl 30 (by decide) lkX7_open_46 (fun _ h9 => h9) (.ref q13) rfl dX7_open_118 ?_
      refine a_iload C0 dX7_open_121 4 rfl ?_
      refine a_aload_n C0 dX7_open_123 rfl 0 rfl ?_
      refine a_get C0 inX7_open_X7 0 rfl rfl 9 (by decide) lkX7_open_31 (fun _ h9 => h9) (.ref q8) rfl dX7_open_124 ?_
      refine a_iload C0 dX7_open_127 4 rfl ?_
      obtain ⟨g_5, h⟩ := gi_e h
      refine a_iald C0 8 0 rfl rfl g_5 dX7_open_129 ?_
      obtain ⟨g_6, h⟩ := gi_e h
      obtain ⟨f13_7, ef13_7, h⟩ := lt_e h
      refine a_iast C0 13 0 rfl rfl g_6 dX7_open_130 (wdX7_12 cA q0 q1 q2 q3 q4 q5 q6 q7 q8 q9 q10 q11 q12 q13 f0 l0_31 l0_32 f1 f2 f3 f4 f5 f6 f7 f8 f9 f10 f11 f12 f13_7) (by subst ef13_7; rfl) ?_
      obtain ⟨x_8, ex_8, h⟩ := lt_e h
      refine a_iinc C0 x_8 [(4, .int x_8), (0, .ref q0), (1, .int a1), (2, .int a2), (3, .int a3)] dX7_open_131 4 rfl (by subst ex_8; rfl) (by decide) rfl ?_
      refine a_goto C0 106 dX7_open_134 (by decide) ?_
      refine a_lv [1, 2, 3, 4, 0] (lv' := [(0, .ref q0), (1, .int a1), (2, .int a2), (3, .int a3), (4, .int x_8)]) rfl ?_
      exact hrc106 x_8 f0 f2 f3 f4 f5 f6 f7 f8 f9 f10 f11 f12 f13_7 h
set_option maxHeartbeats 4000000 in
set_option maxRecDepth 100000 in
theorem bwX7_open_39 {p : Program} {l : Launch} {e : Env} {s : State} {m : MethodId} {args : Array Value} {below : List Frame} {meth : Method} {c : Code} {D : va_G} {A : Nat → Prop} {cA : ClassId} {q0 q1 q2 q3 q4 q5 q6 q7 q8 q9 q10 q11 q12 q13 : Nat} {res : Int32 × (Nat → Int32) × (Nat → Int32) × (Nat → Int32) × (Nat → Int32) × (Nat → Int32) × (Nat → Int32) × (Nat → Int32) × (Nat → Int32) × (Nat → Int32) × (Nat → Int32) × (Nat → Int32) × (Nat → Int32) × (Nat → Int32)} (C0 : cx p s m args meth c cX7_open 5 RX7 wsX7_open (some .int) D vwCl [(cA, .int)] A) (N : Nat) (a1 : Int32) (a2 : Int32) (a3 : Int32) (l0_31 : Int64) (l0_32 : Int64) (f1 : Nat → Int32) (s1 : Int32) (s2 : Int32) (f0 : Nat → Int32) (f2 : Nat → Int32) (f3 : Nat → Int32) (f4 : Nat → Int32) (f5 : Nat → Int32) (f6 : Nat → Int32) (f7 : Nat → Int32) (f8 : Nat → Int32) (f9 : Nat → Int32) (f10 : Nat → Int32) (f11 : Nat → Int32) (f12 : Nat → Int32) (f13 : Nat → Int32) (h : bfX7_open_39 N a1 a2 a3 l0_31 l0_32 f1  s1 s2 f0 f2 f3 f4 f5 f6 f7 f8 f9 f10 f11 f12 f13 = some res) : At_ p l e (rmX7_open) s m args below meth c D vwCl A 5 0 0 (Qi_ below args s D vwCl A (wdX7_12 cA q0 q1 q2 q3 q4 q5 q6 q7 q8 q9 q10 q11 q12 q13 res.2.1 l0_31 l0_32 f1 res.2.2.1 res.2.2.2.1 res.2.2.2.2.1 res.2.2.2.2.2.1 res.2.2.2.2.2.2.1 res.2.2.2.2.2.2.2.1 res.2.2.2.2.2.2.2.2.1 res.2.2.2.2.2.2.2.2.2.1 res.2.2.2.2.2.2.2.2.2.2.1 res.2.2.2.2.2.2.2.2.2.2.2.1 res.2.2.2.2.2.2.2.2.2.2.2.2.1 res.2.2.2.2.2.2.2.2.2.2.2.2.2) res.1) 39 [(0, .ref q0), (1, .int a1), (2, .int a2), (3, .int a3)] [.int s2, .int s1, .ref q12] (wdX7_12 cA q0 q1 q2 q3 q4 q5 q6 q7 q8 q9 q10 q11 q12 q13 f0 l0_31 l0_32 f1 f2 f3 f4 f5 f6 f7 f8 f9 f10 f11 f12 f13) := by
  unfold bfX7_open_39 at h
  obtain ⟨g_9, h⟩ := gi_e h
  obtain ⟨f12_10, ef12_10, h⟩ := lt_e h
  refine a_iast C0 12 0 rfl rfl g_9 dX7_open_39 (wdX7_12 cA q0 q1 q2 q3 q4 q5 q6 q7 q8 q9 q10 q11 q12 q13 f0 l0_31 l0_32 f1 f2 f3 f4 f5 f6 f7 f8 f9 f10 f11 f12_10 f13) (by subst ef12_10; rfl) ?_
  refine a_aload_n C0 dX7_open_40 rfl 0 rfl ?_
  refine a_get C0 inX7_open_X7 0 rfl rfl 29 (by decide) lkX7_open_43 (fun _ h9 => h9) (.ref q12) rfl dX7_open_41 ?_
  refine a_iconst C0 (1 : Int32) dX7_open_44 (by decide) ?_
  refine a_aload_n C0 dX7_open_45 rfl 0 rfl ?_
  refine a_get C0 inX7_open_X7 0 rfl rfl 17 (by decide) lkX7_open_60 (fun _ h9 => h9) (.int (f0 17)) rfl dX7_open_46 ?_
  obtain ⟨g_11, h⟩ := gi_e h
  obtain ⟨f12_12, ef12_12, h⟩ := lt_e h
  refine a_iast C0 12 0 rfl rfl g_11 dX7_open_49 (wdX7_12 cA q0 q1 q2 q3 q4 q5 q6 q7 q8 q9 q10 q11 q12 q13 f0 l0_31 l0_32 f1 f2 f3 f4 f5 f6 f7 f8 f9 f10 f11 f12_12 f13) (by subst ef12_12; rfl) ?_
  refine a_aload_n C0 dX7_open_50 rfl 0 rfl ?_
  refine a_get C0 inX7_open_X7 0 rfl rfl 29 (by decide) lkX7_open_43 (fun _ h9 => h9) (.ref q12) rfl dX7_open_51 ?_
  refine a_iconst C0 (2 : Int32) dX7_open_54 (by decide) ?_
  refine a_aload_n C0 dX7_open_55 rfl 0 rfl ?_
  refine a_get C0 inX7_open_X7 0 rfl rfl 18 (by decide) lkX7_open_73 (fun _ h9 => h9) (.int (f0 18)) rfl dX7_open_56 ?_
  obtain ⟨g_13, h⟩ := gi_e h
  obtain ⟨f12_14, ef12_14, h⟩ := lt_e h
  refine a_iast C0 12 0 rfl rfl g_13 dX7_open_59 (wdX7_12 cA q0 q1 q2 q3 q4 q5 q6 q7 q8 q9 q10 q11 q12 q13 f0 l0_31 l0_32 f1 f2 f3 f4 f5 f6 f7 f8 f9 f10 f11 f12_14 f13) (by subst ef12_14; rfl) ?_
  refine a_aload_n C0 dX7_open_60 rfl 0 rfl ?_
  refine a_get C0 inX7_open_X7 0 rfl rfl 29 (by decide) lkX7_open_43 (fun _ h9 => h9) (.ref q12) rfl dX7_open_61 ?_
  refine a_iconst C0 (3 : Int32) dX7_open_64 (by decide) ?_
  refine a_aload_n C0 dX7_open_65 rfl 0 rfl ?_
  refine a_get C0 inX7_open_X7 0 rfl rfl 20 (by decide) lkX7_open_91 (fun _ h9 => h9) (.int (f0 20)) rfl dX7_open_66 ?_
  obtain ⟨g_15, h⟩ := gi_e h
  obtain ⟨f12_16, ef12_16, h⟩ := lt_e h
  refine a_iast C0 12 0 rfl rfl g_15 dX7_open_69 (wdX7_12 cA q0 q1 q2 q3 q4 q5 q6 q7 q8 q9 q10 q11 q12 q13 f0 l0_31 l0_32 f1 f2 f3 f4 f5 f6 f7 f8 f9 f10 f11 f12_16 f13) (by subst ef12_16; rfl) ?_
  refine a_aload_n C0 dX7_open_70 rfl 0 rfl ?_
  refine a_get C0 inX7_open_X7 0 rfl rfl 29 (by decide) lkX7_open_43 (fun _ h9 => h9) (.ref q12) rfl dX7_open_71 ?_
  refine a_iconst C0 (4 : Int32) dX7_open_74 (by decide) ?_
  refine a_aload_n C0 dX7_open_75 rfl 0 rfl ?_
  refine a_get C0 inX7_open_X7 0 rfl rfl 4 (by decide) lkX7_open_16 (fun _ h9 => h9) (.ref q3) rfl dX7_open_76 ?_
  refine a_iconst C0 (0 : Int32) dX7_open_79 (by decide) ?_
  obtain ⟨g_17, h⟩ := gi_e h
  refine a_iald C0 3 0 rfl rfl g_17 dX7_open_80 ?_
  obtain ⟨g_18, h⟩ := gi_e h
  obtain ⟨f12_19, ef12_19, h⟩ := lt_e h
  refine a_iast C0 12 0 rfl rfl g_18 dX7_open_81 (wdX7_12 cA q0 q1 q2 q3 q4 q5 q6 q7 q8 q9 q10 q11 q12 q13 f0 l0_31 l0_32 f1 f2 f3 f4 f5 f6 f7 f8 f9 f10 f11 f12_19 f13) (by subst ef12_19; rfl) ?_
  refine a_aload_n C0 dX7_open_82 rfl 0 rfl ?_
  refine a_get C0 inX7_open_X7 0 rfl rfl 29 (by decide) lkX7_open_43 (fun _ h9 => h9) (.ref q12) rfl dX7_open_83 ?_
  refine a_iconst C0 (5 : Int32) dX7_open_86 (by decide) ?_
  refine a_aload_n C0 dX7_open_87 rfl 0 rfl ?_
  refine a_get C0 inX7_open_X7 0 rfl rfl 21 (by decide) lkX7_open_97 (fun _ h9 => h9) (.int (f0 21)) rfl dX7_open_88 ?_
  obtain ⟨g_20, h⟩ := gi_e h
  obtain ⟨f12_21, ef12_21, h⟩ := lt_e h
  refine a_iast C0 12 0 rfl rfl g_20 dX7_open_91 (wdX7_12 cA q0 q1 q2 q3 q4 q5 q6 q7 q8 q9 q10 q11 q12 q13 f0 l0_31 l0_32 f1 f2 f3 f4 f5 f6 f7 f8 f9 f10 f11 f12_21 f13) (by subst ef12_21; rfl) ?_
  refine a_aload_n C0 dX7_open_92 rfl 0 rfl ?_
  refine a_get C0 inX7_open_X7 0 rfl rfl 29 (by decide) lkX7_open_43 (fun _ h9 => h9) (.ref q12) rfl dX7_open_93 ?_
  refine a_bipush C0 (6 : Int32) dX7_open_96 (by decide) ?_
  refine a_aload_n C0 dX7_open_98 rfl 0 rfl ?_
  refine a_get C0 inX7_open_X7 0 rfl rfl 22 (by decide) lkX7_open_104 (fun _ h9 => h9) (.int (f0 22)) rfl dX7_open_99 ?_
  obtain ⟨g_22, h⟩ := gi_e h
  obtain ⟨f12_23, ef12_23, h⟩ := lt_e h
  refine a_iast C0 12 0 rfl rfl g_22 dX7_open_102 (wdX7_12 cA q0 q1 q2 q3 q4 q5 q6 q7 q8 q9 q10 q11 q12 q13 f0 l0_31 l0_32 f1 f2 f3 f4 f5 f6 f7 f8 f9 f10 f11 f12_23 f13) (by subst ef12_23; rfl) ?_
  refine a_iconst C0 (0 : Int32) dX7_open_103 (by decide) ?_
  refine a_istore C0 [(4, .int (0 : Int32)), (0, .ref q0), (1, .int a1), (2, .int a2), (3, .int a3)] dX7_open_104 (by decide) rfl ?_
  refine a_lv [1, 2, 3, 4, 0] (lv' := [(0, .ref q0), (1, .int a1), (2, .int a2), (3, .int a3), (4, .int (0 : Int32))]) rfl ?_
  exact bwX7_open_106 C0 N a1 a2 a3 l0_31 l0_32 f1 N (0 : Int32) f0 f2 f3 f4 f5 f6 f7 f8 f9 f10 f11 f12_23 f13 h
set_option maxHeartbeats 4000000 in
set_option maxRecDepth 100000 in
theorem bwX7_open {p : Program} {l : Launch} {e : Env} {s : State} {m : MethodId} {args : Array Value} {below : List Frame} {meth : Method} {c : Code} {D : va_G} {A : Nat → Prop} {cA : ClassId} {q0 q1 q2 q3 q4 q5 q6 q7 q8 q9 q10 q11 q12 q13 : Nat} {res : Int32 × (Nat → Int32) × (Nat → Int32) × (Nat → Int32) × (Nat → Int32) × (Nat → Int32) × (Nat → Int32) × (Nat → Int32) × (Nat → Int32) × (Nat → Int32) × (Nat → Int32) × (Nat → Int32) × (Nat → Int32) × (Nat → Int32)} (C0 : cx p s m args meth c cX7_open 5 RX7 wsX7_open (some .int) D vwCl [(cA, .int)] A) (N : Nat) (a1 : Int32) (a2 : Int32) (a3 : Int32) (f0 : Nat → Int32) (l0_31 : Int64) (l0_32 : Int64) (f1 : Nat → Int32) (f2 : Nat → Int32) (f3 : Nat → Int32) (f4 : Nat → Int32) (f5 : Nat → Int32) (f6 : Nat → Int32) (f7 : Nat → Int32) (f8 : Nat → Int32) (f9 : Nat → Int32) (f10 : Nat → Int32) (f11 : Nat → Int32) (f12 : Nat → Int32) (f13 : Nat → Int32) (h : pX7_open N a1 a2 a3 f0 l0_31 l0_32 f1 f2 f3 f4 f5 f6 f7 f8 f9 f10 f11 f12 f13 = some res) : At_ p l e (rmX7_open) s m args below meth c D vwCl A 5 0 0 (Qi_ below args s D vwCl A (wdX7_12 cA q0 q1 q2 q3 q4 q5 q6 q7 q8 q9 q10 q11 q12 q13 res.2.1 l0_31 l0_32 f1 res.2.2.1 res.2.2.2.1 res.2.2.2.2.1 res.2.2.2.2.2.1 res.2.2.2.2.2.2.1 res.2.2.2.2.2.2.2.1 res.2.2.2.2.2.2.2.2.1 res.2.2.2.2.2.2.2.2.2.1 res.2.2.2.2.2.2.2.2.2.2.1 res.2.2.2.2.2.2.2.2.2.2.2.1 res.2.2.2.2.2.2.2.2.2.2.2.2.1 res.2.2.2.2.2.2.2.2.2.2.2.2.2) res.1) 0 [(0, .ref q0), (1, .int a1), (2, .int a2), (3, .int a3)] [] (wdX7_12 cA q0 q1 q2 q3 q4 q5 q6 q7 q8 q9 q10 q11 q12 q13 f0 l0_31 l0_32 f1 f2 f3 f4 f5 f6 f7 f8 f9 f10 f11 f12 f13) := by
  unfold pX7_open at h
  refine a_iload_n C0 dX7_open_0 rfl 1 rfl ?_
  refine a_iload_n C0 dX7_open_1 rfl 2 rfl ?_
  refine a_iload_n C0 dX7_open_2 rfl 3 rfl ?_
  obtain ⟨r_24, h_25, h⟩ := bd1_e h
  refine a_callSi C0 (wdX7_12 cA q0 q1 q2 q3 q4 q5 q6 q7 q8 q9 q10 q11 q12 q13 f0 l0_31 l0_32 f1 f2 f3 f4 f5 f6 f7 f8 f9 f10 f11 f12 f13) (As := [.int a1, .int a2, .int a3]) (rest := []) (ctX7_isBound l D cA a1 a2 a3 h_25) (cwS 3 C0.1.2.2.2.2 gX7_open_X7_isBound rfl rfl rfl hdX7_isBound ⟨Nat.le_of_ble_eq_true rfl, Nat.le_of_ble_eq_true rfl⟩) [] [0, 1, 2, 3, 4, 5, 6, 7, 8, 9, 10, 11, 12, 13] [0, 1, 2, 3, 4, 5, 6, 7, 8, 9, 10, 11, 12, 13] rfl rfl rfl rfl (by decide) rfl rfl rfl rfl (Nat.le_of_ble_eq_true rfl) dX7_open_3 ⟨Nat.zero_le _, Nat.zero_le _⟩ ?_
  refine a_if_ne C0 12 dX7_open_6 (by decide) (fun c_26 => ?_) (fun c_26 => ?_)
  · have h := ie_ c_26 h
    refine a_aload_n C0 dX7_open_12 rfl 0 rfl ?_
    refine a_iload_n C0 dX7_open_13 rfl 1 rfl ?_
    refine a_iload_n C0 dX7_open_14 rfl 2 rfl ?_
    refine a_iload_n C0 dX7_open_15 rfl 3 rfl ?_
    obtain ⟨f0_27, f2_28, f3_29, f4_30, f5_31, f6_32, f7_33, f8_34, f9_35, f10_36, f11_37, h_38, h⟩ := bd11_e h
    refine a_callVv C0 (wdX7_12 cA q0 q1 q2 q3 q4 q5 q6 q7 q8 q9 q10 q11 q12 q13 f0_27 l0_31 l0_32 f1 f2_28 f3_29 f4_30 f5_31 f6_32 f7_33 f8_34 f9_35 f10_36 f11_37 f12 f13) (As := [.int a1, .int a2, .int a3]) (rest := []) (ctX7_run l D cA q0 q1 q2 q3 q4 q5 q6 q7 q8 q9 q10 q11 q12 q13 N a1 a2 a3 f0 l0_31 l0_32 f1 f2 f3 f4 f5 f6 f7 f8 f9 f10 f11 h_38) (cwV 3 C0.1.2.2.2.2 gX7_open_X7_run rfl rfl rfl hdX7_run ⟨Nat.le_of_ble_eq_true rfl, Nat.le_of_ble_eq_true rfl⟩) [0, 1, 2, 3, 4, 5, 6, 7, 8, 9, 10, 11] [12, 13] [2, 3, 4, 5, 6, 7, 8, 9, 10, 11, 12, 13, 0, 1] rfl rfl rfl rfl (by decide) rfl rfl rfl rfl rfl rfl (Nat.le_of_ble_eq_true rfl) dX7_open_16 ⟨Nat.zero_le _, Nat.zero_le _⟩ ?_
    refine a_aload_n C0 dX7_open_19 rfl 0 rfl ?_
    refine a_get C0 inX7_open_X7 0 rfl rfl 29 (by decide) lkX7_open_43 (fun _ h9 => h9) (.ref q12) rfl dX7_open_20 ?_
    refine a_iconst C0 (0 : Int32) dX7_open_23 (by decide) ?_
    refine a_aload_n C0 dX7_open_24 rfl 0 rfl ?_
    refine a_get C0 inX7_open_X7 0 rfl rfl 16 (by decide) lkX7_open_57 (fun _ h9 => h9) (.int (f0_27 16)) rfl dX7_open_25 ?_
    refine a_if_ne C0 35 dX7_open_28 (by decide) (fun c_39 => ?_) (fun c_39 => ?_)
    · have h := ie_ c_39 h
      refine a_aload_n C0 dX7_open_35 rfl 0 rfl ?_
      refine a_get C0 inX7_open_X7 0 rfl rfl 16 (by decide) lkX7_open_57 (fun _ h9 => h9) (.int (f0_27 16)) rfl dX7_open_36 ?_
      exact bwX7_open_39 C0 N a1 a2 a3 l0_31 l0_32 f1 (0 : Int32) (f0_27 16) f0_27 f2_28 f3_29 f4_30 f5_31 f6_32 f7_33 f8_34 f9_35 f10_36 f11_37 f12 f13 h
    · have h := it_ c_39 h
      refine a_iconst C0 (-1 : Int32) dX7_open_31 (by decide) ?_
      refine a_goto C0 39 dX7_open_32 (by decide) ?_
      exact bwX7_open_39 C0 N a1 a2 a3 l0_31 l0_32 f1 (0 : Int32) (-1 : Int32) f0_27 f2_28 f3_29 f4_30 f5_31 f6_32 f7_33 f8_34 f9_35 f10_36 f11_37 f12 f13 h
  · have h := it_ c_26 h
    refine a_bipush C0 (-2 : Int32) dX7_open_9 (by decide) ?_
    obtain rfl := Option.some.inj h
    exact a_iret C0 dX7_open_11 rfl rfl
set_option maxRecDepth 100000 in
theorem ctX7_open (l : Launch) (D : va_G) (cA : ClassId) (q0 q1 q2 q3 q4 q5 q6 q7 q8 q9 q10 q11 q12 q13 : Nat) (N : Nat) (a1 : Int32) (a2 : Int32) (a3 : Int32) (f0 : Nat → Int32) (l0_31 : Int64) (l0_32 : Int64) (f1 : Nat → Int32) (f2 : Nat → Int32) (f3 : Nat → Int32) (f4 : Nat → Int32) (f5 : Nat → Int32) (f6 : Nat → Int32) (f7 : Nat → Int32) (f8 : Nat → Int32) (f9 : Nat → Int32) (f10 : Nat → Int32) (f11 : Nat → Int32) (f12 : Nat → Int32) (f13 : Nat → Int32) {res : Int32 × (Nat → Int32) × (Nat → Int32) × (Nat → Int32) × (Nat → Int32) × (Nat → Int32) × (Nat → Int32) × (Nat → Int32) × (Nat → Int32) × (Nat → Int32) × (Nat → Int32) × (Nat → Int32) × (Nat → Int32) × (Nat → Int32)} (h : pX7_open N a1 a2 a3 f0 l0_31 l0_32 f1 f2 f3 f4 f5 f6 f7 f8 f9 f10 f11 f12 f13 = some res) : Cti l yX7_open wsX7_open (rmX7_open) D vwCl [(cA, .int)] [.ref q0, .int a1, .int a2, .int a3] (wdX7_12 cA q0 q1 q2 q3 q4 q5 q6 q7 q8 q9 q10 q11 q12 q13 f0 l0_31 l0_32 f1 f2 f3 f4 f5 f6 f7 f8 f9 f10 f11 f12 f13) (wdX7_12 cA q0 q1 q2 q3 q4 q5 q6 q7 q8 q9 q10 q11 q12 q13 res.2.1 l0_31 l0_32 f1 res.2.2.1 res.2.2.2.1 res.2.2.2.2.1 res.2.2.2.2.2.1 res.2.2.2.2.2.2.1 res.2.2.2.2.2.2.2.1 res.2.2.2.2.2.2.2.2.1 res.2.2.2.2.2.2.2.2.2.1 res.2.2.2.2.2.2.2.2.2.2.1 res.2.2.2.2.2.2.2.2.2.2.2.1 res.2.2.2.2.2.2.2.2.2.2.2.2.1 res.2.2.2.2.2.2.2.2.2.2.2.2.2) 0 0 res.1 :=
  ct_i (maxL := 5) (cc := cX7_open) (by decide) rfl (Nat.le_of_ble_eq_true rfl) (fun p e s m below meth c C0 => bwX7_open C0 N a1 a2 a3 f0 l0_31 l0_32 f1 f2 f3 f4 f5 f6 f7 f8 f9 f10 f11 f12 f13 h)
/-! PackDrawerModel.plain -/
theorem hdX7_open : yX7_open.cls = RX7 ∧ yX7_open.cls ≠ "java/lang/invoke/MethodHandle" ∧ yX7_open.cls ≠ "java/lang/invoke/VarHandle" ∧ (parseMethodDescriptor yX7_open.desc).map (fun d => d.parameters.length) = some 3 := by decide +kernel
abbrev rmX7_plain : Room := { frames := 8, cells := 0, slots := 0, locals := 187 }
def pX7_plain (N : Nat) (a1 : Int32) (a2 : Int32) (a3 : Int32) (f0 : Nat → Int32) (l0_31 : Int64) (l0_32 : Int64) (f1 : Nat → Int32) (f2 : Nat → Int32) (f3 : Nat → Int32) (f4 : Nat → Int32) (f5 : Nat → Int32) (f6 : Nat → Int32) (f7 : Nat → Int32) (f8 : Nat → Int32) (f9 : Nat → Int32) (f10 : Nat → Int32) (f11 : Nat → Int32) (f12 : Nat → Int32) (f13 : Nat → Int32) : Option (Int32 × (Nat → Int32) × (Nat → Int32) × (Nat → Int32) × (Nat → Int32) × (Nat → Int32) × (Nat → Int32) × (Nat → Int32) × (Nat → Int32) × (Nat → Int32) × (Nat → Int32) × (Nat → Int32) × (Nat → Int32) × (Nat → Int32)) := bd14 (pX7_open N a1 a2 a3 f0 l0_31 l0_32 f1 f2 f3 f4 f5 f6 f7 f8 f9 f10 f11 f12 f13) (fun r_1 f0_2 f2_3 f3_4 f4_5 f5_6 f6_7 f7_8 f8_9 f9_10 f10_11 f11_12 f12_13 f13_14 => some (r_1, f0_2, f2_3, f3_4, f4_5, f5_6, f6_7, f7_8, f8_9, f9_10, f10_11, f11_12, f12_13, f13_14))
set_option maxHeartbeats 4000000 in
set_option maxRecDepth 100000 in
theorem bwX7_plain {p : Program} {l : Launch} {e : Env} {s : State} {m : MethodId} {args : Array Value} {below : List Frame} {meth : Method} {c : Code} {D : va_G} {A : Nat → Prop} {cA : ClassId} {q0 q1 q2 q3 q4 q5 q6 q7 q8 q9 q10 q11 q12 q13 : Nat} {res : Int32 × (Nat → Int32) × (Nat → Int32) × (Nat → Int32) × (Nat → Int32) × (Nat → Int32) × (Nat → Int32) × (Nat → Int32) × (Nat → Int32) × (Nat → Int32) × (Nat → Int32) × (Nat → Int32) × (Nat → Int32) × (Nat → Int32)} (C0 : cx p s m args meth c cX7_plain 4 RX7 wsX7_plain (some .int) D vwCl [(cA, .int)] A) (N : Nat) (a1 : Int32) (a2 : Int32) (a3 : Int32) (f0 : Nat → Int32) (l0_31 : Int64) (l0_32 : Int64) (f1 : Nat → Int32) (f2 : Nat → Int32) (f3 : Nat → Int32) (f4 : Nat → Int32) (f5 : Nat → Int32) (f6 : Nat → Int32) (f7 : Nat → Int32) (f8 : Nat → Int32) (f9 : Nat → Int32) (f10 : Nat → Int32) (f11 : Nat → Int32) (f12 : Nat → Int32) (f13 : Nat → Int32) (h : pX7_plain N a1 a2 a3 f0 l0_31 l0_32 f1 f2 f3 f4 f5 f6 f7 f8 f9 f10 f11 f12 f13 = some res) : At_ p l e (rmX7_plain) s m args below meth c D vwCl A 4 0 0 (Qi_ below args s D vwCl A (wdX7_12 cA q0 q1 q2 q3 q4 q5 q6 q7 q8 q9 q10 q11 q12 q13 res.2.1 l0_31 l0_32 f1 res.2.2.1 res.2.2.2.1 res.2.2.2.2.1 res.2.2.2.2.2.1 res.2.2.2.2.2.2.1 res.2.2.2.2.2.2.2.1 res.2.2.2.2.2.2.2.2.1 res.2.2.2.2.2.2.2.2.2.1 res.2.2.2.2.2.2.2.2.2.2.1 res.2.2.2.2.2.2.2.2.2.2.2.1 res.2.2.2.2.2.2.2.2.2.2.2.2.1 res.2.2.2.2.2.2.2.2.2.2.2.2.2) res.1) 0 [(0, .ref q0), (1, .int a1), (2, .int a2), (3, .int a3)] [] (wdX7_12 cA q0 q1 q2 q3 q4 q5 q6 q7 q8 q9 q10 q11 q12 q13 f0 l0_31 l0_32 f1 f2 f3 f4 f5 f6 f7 f8 f9 f10 f11 f12 f13) := by
  unfold pX7_plain at h
  refine a_aload_n C0 dX7_plain_0 rfl 0 rfl ?_
  refine a_iload_n C0 dX7_plain_1 rfl 1 rfl ?_
  refine a_iload_n C0 dX7_plain_2 rfl 2 rfl ?_
  refine a_iload_n C0 dX7_plain_3 rfl 3 rfl ?_
  obtain ⟨r_1, f0_2, f2_3, f3_4, f4_5, f5_6, f6_7, f7_8, f8_9, f9_10, f10_11, f11_12, f12_13, f13_14, h_15, h⟩ := bd14_e h
  refine a_callVi C0 (wdX7_12 cA q0 q1 q2 q3 q4 q5 q6 q7 q8 q9 q10 q11 q12 q13 f0_2 l0_31 l0_32 f1 f2_3 f3_4 f4_5 f5_6 f6_7 f7_8 f8_9 f9_10 f10_11 f11_12 f12_13 f13_14) (As := [.int a1, .int a2, .int a3]) (rest := []) (ctX7_open l D cA q0 q1 q2 q3 q4 q5 q6 q7 q8 q9 q10 q11 q12 q13 N a1 a2 a3 f0 l0_31 l0_32 f1 f2 f3 f4 f5 f6 f7 f8 f9 f10 f11 f12 f13 h_15) (cwV 3 C0.1.2.2.2.2 gX7_plain_X7_open rfl rfl rfl hdX7_open ⟨Nat.le_of_ble_eq_true rfl, Nat.le_of_ble_eq_true rfl⟩) [0, 1, 2, 3, 4, 5, 6, 7, 8, 9, 10, 11, 12, 13] [] [0, 1, 2, 3, 4, 5, 6, 7, 8, 9, 10, 11, 12, 13] rfl rfl rfl rfl (by decide) rfl rfl rfl rfl rfl rfl (Nat.le_of_ble_eq_true rfl) dX7_plain_4 ⟨Nat.zero_le _, Nat.zero_le _⟩ ?_
  obtain rfl := Option.some.inj h
  exact a_iret C0 dX7_plain_7 rfl rfl
set_option maxRecDepth 100000 in
theorem ctX7_plain (l : Launch) (D : va_G) (cA : ClassId) (q0 q1 q2 q3 q4 q5 q6 q7 q8 q9 q10 q11 q12 q13 : Nat) (N : Nat) (a1 : Int32) (a2 : Int32) (a3 : Int32) (f0 : Nat → Int32) (l0_31 : Int64) (l0_32 : Int64) (f1 : Nat → Int32) (f2 : Nat → Int32) (f3 : Nat → Int32) (f4 : Nat → Int32) (f5 : Nat → Int32) (f6 : Nat → Int32) (f7 : Nat → Int32) (f8 : Nat → Int32) (f9 : Nat → Int32) (f10 : Nat → Int32) (f11 : Nat → Int32) (f12 : Nat → Int32) (f13 : Nat → Int32) {res : Int32 × (Nat → Int32) × (Nat → Int32) × (Nat → Int32) × (Nat → Int32) × (Nat → Int32) × (Nat → Int32) × (Nat → Int32) × (Nat → Int32) × (Nat → Int32) × (Nat → Int32) × (Nat → Int32) × (Nat → Int32) × (Nat → Int32)} (h : pX7_plain N a1 a2 a3 f0 l0_31 l0_32 f1 f2 f3 f4 f5 f6 f7 f8 f9 f10 f11 f12 f13 = some res) : Cti l yX7_plain wsX7_plain (rmX7_plain) D vwCl [(cA, .int)] [.ref q0, .int a1, .int a2, .int a3] (wdX7_12 cA q0 q1 q2 q3 q4 q5 q6 q7 q8 q9 q10 q11 q12 q13 f0 l0_31 l0_32 f1 f2 f3 f4 f5 f6 f7 f8 f9 f10 f11 f12 f13) (wdX7_12 cA q0 q1 q2 q3 q4 q5 q6 q7 q8 q9 q10 q11 q12 q13 res.2.1 l0_31 l0_32 f1 res.2.2.1 res.2.2.2.1 res.2.2.2.2.1 res.2.2.2.2.2.1 res.2.2.2.2.2.2.1 res.2.2.2.2.2.2.2.1 res.2.2.2.2.2.2.2.2.1 res.2.2.2.2.2.2.2.2.2.1 res.2.2.2.2.2.2.2.2.2.2.1 res.2.2.2.2.2.2.2.2.2.2.2.1 res.2.2.2.2.2.2.2.2.2.2.2.2.1 res.2.2.2.2.2.2.2.2.2.2.2.2.2) 0 0 res.1 :=
  ct_i (maxL := 4) (cc := cX7_plain) (by decide) rfl (Nat.le_of_ble_eq_true rfl) (fun p e s m below meth c C0 => bwX7_plain C0 N a1 a2 a3 f0 l0_31 l0_32 f1 f2 f3 f4 f5 f6 f7 f8 f9 f10 f11 f12 f13 h)
