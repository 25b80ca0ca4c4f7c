abbrev wdL_0 (cA : ClassId) (q0 q1 q2 q3 q4 q5 q6 q7 q8 q9 q10 q11 q12 q13 q14 q15 q16 q17 q18 q19 q20 q21 q22 q23 q24 q25 q26 q27 q28 q29 q30 q31 q32 q33 q34 q35 q36 q37 q38 : Nat) (f1 : Nat → Int32) (f2 : Nat → Int32) (f3 : Nat → Int32) (f4 : Nat → Int32) (f5 : Nat → Int32) (f6 : Nat → Int32) (f7 : Nat → Int32) (f8 : Nat → Int32) (f9 : Nat → Int32) (f10 : Nat → Int32) (f11 : Nat → Int32) (f12 : Nat → Int32) (f13 : Nat → Int32) (f14 : Nat → Int32) (f15 : Nat → Int32) (f16 : Nat → Int32) (f17 : Nat → Int32) (f18 : Nat → Int32) (f19 : Nat → Int32) (f20 : Nat → Int32) (f21 : Nat → Int32) (f22 : Nat → Int32) (l22_2 : Int64) (f23 : Nat → Int32) (f24 : Nat → Int32) (f25 : Nat → Int32) (l25_31 : Int64) (l25_32 : Int64) (f26 : Nat → Int32) (f27 : Nat → Int32) (f28 : Nat → Int32) (f29 : Nat → Int32) (f30 : Nat → Int32) (f31 : Nat → Int32) (f32 : Nat → Int32) (f33 : Nat → Int32) (f34 : Nat → Int32) (f35 : Nat → Int32) (f36 : Nat → Int32) (f37 : Nat → Int32) (f38 : Nat → Int32) : va_W := [(q0, .inr (6, [.ref q1, .ref q3, .ref q5, .ref q8, .ref q11, .ref q16, .ref q17, .ref q22])), (q1, .inr (5, [.ref q2, .int (f1 1)])), (q2, .inl (cA, 160, .inl f2)), (q3, .inr (5, [.ref q4, .int (f3 1)])), (q4, .inl (cA, 160, .inl f4)), (q5, .inr (0, [.ref q6, .int (f5 1), .int (f5 2), .int (f5 3), .int (f5 4), .int (f5 5), .int (f5 6), .int (f5 7), .int (f5 8), .int (f5 9), .int (f5 10), .int (f5 11)])), (q6, .inr (4, [.ref q7, .int (f6 1)])), (q7, .inl (cA, 800, .inl f7)), (q8, .inr (0, [.ref q9, .int (f8 1), .int (f8 2), .int (f8 3), .int (f8 4), .int (f8 5), .int (f8 6), .int (f8 7), .int (f8 8), .int (f8 9), .int (f8 10), .int (f8 11)])), (q9, .inr (4, [.ref q10, .int (f9 1)])), (q10, .inl (cA, 800, .inl f10)), (q11, .inr (1, [.ref q1, .ref q5, .ref q6, .ref q12, .ref q13, .ref q14, .ref q15, .int (f11 7), .int (f11 8), .int (f11 9), .int (f11 10), .int (f11 11)])), (q12, .inl (cA, 7, .inl f12)), (q13, .inl (cA, 7, .inl f13)), (q14, .inl (cA, 7, .inl f14)), (q15, .inl (cA, 7, .inl f15)), (q16, .inr (3, [.ref q1, .ref q5, .ref q6, .int (f16 3), .int (f16 4), .int (f16 5)])), (q17, .inr (1, [.ref q3, .ref q8, .ref q9, .ref q18, .ref q19, .ref q20, .ref q21, .int (f17 7), .int (f17 8), .int (f17 9), .int (f17 10), .int (f17 11)])), (q18, .inl (cA, 7, .inl f18)), (q19, .inl (cA, 7, .inl f19)), (q20, .inl (cA, 7, .inl f20)), (q21, .inl (cA, 7, .inl f21)), (q22, .inr (2, [.ref q1, .ref q23, .long l22_2, .int (f22 3), .int (f22 4)])), (q23, .inr (4, [.ref q24, .int (f23 1)])), (q24, .inl (cA, 800, .inl f24)), (q25, .inr (7, [.ref q26, .int (f25 1), .int (f25 2), .ref q27, .ref q28, .ref q29, .ref q30, .ref q31, .ref q32, .ref q33, .int (f25 10), .ref q34, .ref q35, .ref q36, .int (f25 14), .int (f25 15), .int (f25 16), .int (f25 17), .int (f25 18), .int (f25 19), .int (f25 20), .int (f25 21), .int (f25 22), .int (f25 23), .int (f25 24), .int (f25 25), .int (f25 26), .int (f25 27), .int (f25 28), .ref q37, .ref q38, .long l25_31, .long l25_32])), (q26, .inl (cA, 160, .inl f26)), (q27, .inl (cA, 6, .inl f27)), (q28, .inl (cA, 6, .inl f28)), (q29, .inl (cA, 6, .inl f29)), (q30, .inl (cA, 6, .inl f30)), (q31, .inl (cA, 6, .inl f31)), (q32, .inl (cA, 6, .inl f32)), (q33, .inl (cA, 2000, .inl f33)), (q34, .inl (cA, 170, .inl f34)), (q35, .inl (cA, 170, .inl f35)), (q36, .inl (cA, 170, .inl f36)), (q37, .inl (cA, 7, .inl f37)), (q38, .inl (cA, 400, .inl f38))]
theorem hdX6_put : yX6_put.cls = RX6 ∧ yX6_put.cls ≠ "java/lang/invoke/MethodHandle" ∧ yX6_put.cls ≠ "java/lang/invoke/VarHandle" ∧ (parseMethodDescriptor yX6_put.desc).map (fun d => d.parameters.length) = some 1 := by decide +kernel
theorem hdX7_put : yX7_put.cls = RX7 ∧ yX7_put.cls ≠ "java/lang/invoke/MethodHandle" ∧ yX7_put.cls ≠ "java/lang/invoke/VarHandle" ∧ (parseMethodDescriptor yX7_put.desc).map (fun d => d.parameters.length) = some 1 := by decide +kernel
theorem hdX6_cut : yX6_cut.cls = RX6 ∧ yX6_cut.cls ≠ "java/lang/invoke/MethodHandle" ∧ yX6_cut.cls ≠ "java/lang/invoke/VarHandle" ∧ (parseMethodDescriptor yX6_cut.desc).map (fun d => d.parameters.length) = some 1 := by decide +kernel
theorem hdX7_cut : yX7_cut.cls = RX7 ∧ yX7_cut.cls ≠ "java/lang/invoke/MethodHandle" ∧ yX7_cut.cls ≠ "java/lang/invoke/VarHandle" ∧ (parseMethodDescriptor yX7_cut.desc).map (fun d => d.parameters.length) = some 1 := by decide +kernel
theorem hdX6_poke : yX6_poke.cls = RX6 ∧ yX6_poke.cls ≠ "java/lang/invoke/MethodHandle" ∧ yX6_poke.cls ≠ "java/lang/invoke/VarHandle" ∧ (parseMethodDescriptor yX6_poke.desc).map (fun d => d.parameters.length) = some 2 := by decide +kernel
theorem hdX7_poke : yX7_poke.cls = RX7 ∧ yX7_poke.cls ≠ "java/lang/invoke/MethodHandle" ∧ yX7_poke.cls ≠ "java/lang/invoke/VarHandle" ∧ (parseMethodDescriptor yX7_poke.desc).map (fun d => d.parameters.length) = some 2 := by decide +kernel
theorem hdX6_at : yX6_at.cls = RX6 ∧ yX6_at.cls ≠ "java/lang/invoke/MethodHandle" ∧ yX6_at.cls ≠ "java/lang/invoke/VarHandle" ∧ (parseMethodDescriptor yX6_at.desc).map (fun d => d.parameters.length) = some 1 := by decide +kernel
theorem hdX7_at : yX7_at.cls = RX7 ∧ yX7_at.cls ≠ "java/lang/invoke/MethodHandle" ∧ yX7_at.cls ≠ "java/lang/invoke/VarHandle" ∧ (parseMethodDescriptor yX7_at.desc).map (fun d => d.parameters.length) = some 1 := by decide +kernel
theorem hdX6_length : yX6_length.cls = RX6 ∧ yX6_length.cls ≠ "java/lang/invoke/MethodHandle" ∧ yX6_length.cls ≠ "java/lang/invoke/VarHandle" ∧ (parseMethodDescriptor yX6_length.desc).map (fun d => d.parameters.length) = some 0 := by decide +kernel
theorem hdX7_length : yX7_length.cls = RX7 ∧ yX7_length.cls ≠ "java/lang/invoke/MethodHandle" ∧ yX7_length.cls ≠ "java/lang/invoke/VarHandle" ∧ (parseMethodDescriptor yX7_length.desc).map (fun d => d.parameters.length) = some 0 := by decide +kernel
theorem hdX6_draw : yX6_draw.cls = RX6 ∧ yX6_draw.cls ≠ "java/lang/invoke/MethodHandle" ∧ yX6_draw.cls ≠ "java/lang/invoke/VarHandle" ∧ (parseMethodDescriptor yX6_draw.desc).map (fun d => d.parameters.length) = some 3 := by decide +kernel
theorem hdX7_draw : yX7_draw.cls = RX7 ∧ yX7_draw.cls ≠ "java/lang/invoke/MethodHandle" ∧ yX7_draw.cls ≠ "java/lang/invoke/VarHandle" ∧ (parseMethodDescriptor yX7_draw.desc).map (fun d => d.parameters.length) = some 3 := by decide +kernel
theorem hdX6_bomb : yX6_bomb.cls = RX6 ∧ yX6_bomb.cls ≠ "java/lang/invoke/MethodHandle" ∧ yX6_bomb.cls ≠ "java/lang/invoke/VarHandle" ∧ (parseMethodDescriptor yX6_bomb.desc).map (fun d => d.parameters.length) = some 3 := by decide +kernel
theorem hdX7_bomb : yX7_bomb.cls = RX7 ∧ yX7_bomb.cls ≠ "java/lang/invoke/MethodHandle" ∧ yX7_bomb.cls ≠ "java/lang/invoke/VarHandle" ∧ (parseMethodDescriptor yX7_bomb.desc).map (fun d => d.parameters.length) = some 3 := by decide +kernel
theorem hdX6_plant : yX6_plant.cls = RX6 ∧ yX6_plant.cls ≠ "java/lang/invoke/MethodHandle" ∧ yX6_plant.cls ≠ "java/lang/invoke/VarHandle" ∧ (parseMethodDescriptor yX6_plant.desc).map (fun d => d.parameters.length) = some 1 := by decide +kernel
theorem hdX7_plant : yX7_plant.cls = RX7 ∧ yX7_plant.cls ≠ "java/lang/invoke/MethodHandle" ∧ yX7_plant.cls ≠ "java/lang/invoke/VarHandle" ∧ (parseMethodDescriptor yX7_plant.desc).map (fun d => d.parameters.length) = some 1 := by decide +kernel
theorem hdX6_open : yX6_open.cls = RX6 ∧ yX6_open.cls ≠ "java/lang/invoke/MethodHandle" ∧ yX6_open.cls ≠ "java/lang/invoke/VarHandle" ∧ (parseMethodDescriptor yX6_open.desc).map (fun d => d.parameters.length) = some 3 := by decide +kernel
theorem hdX6_plain : yX6_plain.cls = RX6 ∧ yX6_plain.cls ≠ "java/lang/invoke/MethodHandle" ∧ yX6_plain.cls ≠ "java/lang/invoke/VarHandle" ∧ (parseMethodDescriptor yX6_plain.desc).map (fun d => d.parameters.length) = some 3 := by decide +kernel
theorem hdX7_plain : yX7_plain.cls = RX7 ∧ yX7_plain.cls ≠ "java/lang/invoke/MethodHandle" ∧ yX7_plain.cls ≠ "java/lang/invoke/VarHandle" ∧ (parseMethodDescriptor yX7_plain.desc).map (fun d => d.parameters.length) = some 3 := by decide +kernel
theorem hdX6_told : yX6_told.cls = RX6 ∧ yX6_told.cls ≠ "java/lang/invoke/MethodHandle" ∧ yX6_told.cls ≠ "java/lang/invoke/VarHandle" ∧ (parseMethodDescriptor yX6_told.desc).map (fun d => d.parameters.length) = some 1 := by decide +kernel
theorem hdX7_told : yX7_told.cls = RX7 ∧ yX7_told.cls ≠ "java/lang/invoke/MethodHandle" ∧ yX7_told.cls ≠ "java/lang/invoke/VarHandle" ∧ (parseMethodDescriptor yX7_told.desc).map (fun d => d.parameters.length) = some 1 := by decide +kernel
theorem hdX6_given : yX6_given.cls = RX6 ∧ yX6_given.cls ≠ "java/lang/invoke/MethodHandle" ∧ yX6_given.cls ≠ "java/lang/invoke/VarHandle" ∧ (parseMethodDescriptor yX6_given.desc).map (fun d => d.parameters.length) = some 1 := by decide +kernel
theorem hdX7_given : yX7_given.cls = RX7 ∧ yX7_given.cls ≠ "java/lang/invoke/MethodHandle" ∧ yX7_given.cls ≠ "java/lang/invoke/VarHandle" ∧ (parseMethodDescriptor yX7_given.desc).map (fun d => d.parameters.length) = some 1 := by decide +kernel
theorem hdX6_shorter : yX6_shorter.cls = RX6 ∧ yX6_shorter.cls ≠ "java/lang/invoke/MethodHandle" ∧ yX6_shorter.cls ≠ "java/lang/invoke/VarHandle" ∧ (parseMethodDescriptor yX6_shorter.desc).map (fun d => d.parameters.length) = some 3 := by decide +kernel
theorem hdX7_shorter : yX7_shorter.cls = RX7 ∧ yX7_shorter.cls ≠ "java/lang/invoke/MethodHandle" ∧ yX7_shorter.cls ≠ "java/lang/invoke/VarHandle" ∧ (parseMethodDescriptor yX7_shorter.desc).map (fun d => d.parameters.length) = some 3 := by decide +kernel
theorem lkL_law_36 : Cond.constantLong RL 36 (4294967295 : Int64) ∈ wsL_law := by decide +kernel
set_option maxHeartbeats 8000000 in
set_option maxRecDepth 100000 in
theorem law_loop {p : Program} {l : Launch} {e : Env} {s : State} {m : MethodId} {below : List Frame} {meth : Method} {c : Code} {D : va_G} {A : Nat → Prop} {cA : ClassId} {b L : Nat} {xs : Nat → Int32} {q0 q1 q2 q3 q4 q5 q6 q7 q8 q9 q10 q11 q12 q13 q14 q15 q16 q17 q18 q19 q20 q21 q22 q23 q24 q25 q26 q27 q28 q29 q30 q31 q32 q33 q34 q35 q36 q37 q38 : Nat} (N : Nat) (Iv : (Nat → Int32) → (Nat → Int32) → (Nat → Int32) → (Nat → Int32) → (Nat → Int32) → (Nat → Int32) → (Nat → Int32) → (Nat → Int32) → (Nat → Int32) → (Nat → Int32) → (Nat → Int32) → Prop) (st_put : ∀ (f1 : Nat → Int32) (f2 : Nat → Int32) (f5 : Nat → Int32) (f6 : Nat → Int32) (f7 : Nat → Int32) (f9 : Nat → Int32) (f23 : Nat → Int32) (f25 : Nat → Int32) (l25_31 : Int64) (l25_32 : Int64) (f26 : Nat → Int32) (f37 : Nat → Int32) (f38 : Nat → Int32) (a1 : Int32), Iv f1 f2 f5 f6 f7 f9 f23 f25 f26 f37 f38 → ∃ (r : Int32) (f1' : Nat → Int32) (f2' : Nat → Int32) (f25' : Nat → Int32) (f26' : Nat → Int32), pX6_put a1 f1 f2 = some (r, f1', f2') ∧ pX7_put a1 f25 l25_31 l25_32 f26 = some (r, f25', f26') ∧ Iv f1' f2' f5 f6 f7 f9 f23 f25' f26' f37 f38) (st_cut : ∀ (f1 : Nat → Int32) (f2 : Nat → Int32) (f5 : Nat → Int32) (f6 : Nat → Int32) (f7 : Nat → Int32) (f9 : Nat → Int32) (f23 : Nat → Int32) (f25 : Nat → Int32) (l25_31 : Int64) (l25_32 : Int64) (f26 : Nat → Int32) (f37 : Nat → Int32) (f38 : Nat → Int32) (a1 : Int32), Iv f1 f2 f5 f6 f7 f9 f23 f25 f26 f37 f38 → ∃ (r : Int32) (f1' : Nat → Int32) (f25' : Nat → Int32), pX6_cut a1 f1 = some (r, f1') ∧ pX7_cut a1 f25 l25_31 l25_32 = some (r, f25') ∧ Iv f1' f2 f5 f6 f7 f9 f23 f25' f26 f37 f38) (st_poke : ∀ (f1 : Nat → Int32) (f2 : Nat → Int32) (f5 : Nat → Int32) (f6 : Nat → Int32) (f7 : Nat → Int32) (f9 : Nat → Int32) (f23 : Nat → Int32) (f25 : Nat → Int32) (l25_31 : Int64) (l25_32 : Int64) (f26 : Nat → Int32) (f37 : Nat → Int32) (f38 : Nat → Int32) (a1 : Int32) (a2 : Int32), Iv f1 f2 f5 f6 f7 f9 f23 f25 f26 f37 f38 → ∃ (r : Int32) (f2' : Nat → Int32) (f26' : Nat → Int32), pX6_poke a1 a2 f1 f2 = some (r, f2') ∧ pX7_poke a1 a2 f25 l25_31 l25_32 f26 = some (r, f26') ∧ Iv f1 f2' f5 f6 f7 f9 f23 f25 f26' f37 f38) (st_at : ∀ (f1 : Nat → Int32) (f2 : Nat → Int32) (f5 : Nat → Int32) (f6 : Nat → Int32) (f7 : Nat → Int32) (f9 : Nat → Int32) (f23 : Nat → Int32) (f25 : Nat → Int32) (l25_31 : Int64) (l25_32 : Int64) (f26 : Nat → Int32) (f37 : Nat → Int32) (f38 : Nat → Int32) (a1 : Int32), Iv f1 f2 f5 f6 f7 f9 f23 f25 f26 f37 f38 → ∃ (r : Int32), pX6_at a1 f1 f2 = some r ∧ pX7_at a1 f25 l25_31 l25_32 f26 = some r ∧ Iv f1 f2 f5 f6 f7 f9 f23 f25 f26 f37 f38) (st_length : ∀ (f1 : Nat → Int32) (f2 : Nat → Int32) (f5 : Nat → Int32) (f6 : Nat → Int32) (f7 : Nat → Int32) (f9 : Nat → Int32) (f23 : Nat → Int32) (f25 : Nat → Int32) (l25_31 : Int64) (l25_32 : Int64) (f26 : Nat → Int32) (f37 : Nat → Int32) (f38 : Nat → Int32), Iv f1 f2 f5 f6 f7 f9 f23 f25 f26 f37 f38 → ∃ (r : Int32), pX6_length f1 = some r ∧ pX7_length f25 l25_31 l25_32 = some r ∧ Iv f1 f2 f5 f6 f7 f9 f23 f25 f26 f37 f38) (st_draw : ∀ (f1 : Nat → Int32) (f2 : Nat → Int32) (f5 : Nat → Int32) (f6 : Nat → Int32) (f7 : Nat → Int32) (f9 : Nat → Int32) (f22 : Nat → Int32) (l22_2 : Int64) (f23 : Nat → Int32) (f24 : Nat → Int32) (f25 : Nat → Int32) (l25_31 : Int64) (l25_32 : Int64) (f26 : Nat → Int32) (f27 : Nat → Int32) (f28 : Nat → Int32) (f29 : Nat → Int32) (f30 : Nat → Int32) (f31 : Nat → Int32) (f32 : Nat → Int32) (f33 : Nat → Int32) (f37 : Nat → Int32) (f38 : Nat → Int32) (a1 : Int64) (a3 : Int32) (a4 : Int32), Iv f1 f2 f5 f6 f7 f9 f23 f25 f26 f37 f38 → ∃ (r : Int32) (f1' : Nat → Int32) (f2' : Nat → Int32) (f22' : Nat → Int32) (l22_2' : Int64) (f23' : Nat → Int32) (f24' : Nat → Int32) (f25' : Nat → Int32) (l25_31' : Int64) (l25_32' : Int64) (f26' : Nat → Int32) (f27' : Nat → Int32) (f28' : Nat → Int32) (f29' : Nat → Int32) (f30' : Nat → Int32) (f31' : Nat → Int32) (f32' : Nat → Int32) (f33' : Nat → Int32), pX6_draw N a1 a3 a4 f1 f2 f22 l22_2 f23 f24 = some (r, f1', f2', f22', l22_2', f23', f24') ∧ pX7_draw N a1 a3 a4 f25 l25_31 l25_32 f26 f27 f28 f29 f30 f31 f32 f33 = some (r, f25', l25_31', l25_32', f26', f27', f28', f29', f30', f31', f32', f33') ∧ Iv f1' f2' f5 f6 f7 f9 f23' f25' f26' f37 f38) (st_bomb : ∀ (f1 : Nat → Int32) (f2 : Nat → Int32) (f5 : Nat → Int32) (f6 : Nat → Int32) (f7 : Nat → Int32) (f9 : Nat → Int32) (f23 : Nat → Int32) (f25 : Nat → Int32) (l25_31 : Int64) (l25_32 : Int64) (f26 : Nat → Int32) (f37 : Nat → Int32) (f38 : Nat → Int32) (a1 : Int32) (a2 : Int32) (a3 : Int32), Iv f1 f2 f5 f6 f7 f9 f23 f25 f26 f37 f38 → ∃ (r : Int32) (f1' : Nat → Int32) (f2' : Nat → Int32) (f25' : Nat → Int32) (f26' : Nat → Int32), pX6_bomb N a1 a2 a3 f1 f2 = some (r, f1', f2') ∧ pX7_bomb N a1 a2 a3 f25 l25_31 l25_32 f26 = some (r, f25', f26') ∧ Iv f1' f2' f5 f6 f7 f9 f23 f25' f26' f37 f38) (st_plant : ∀ (f1 : Nat → Int32) (f2 : Nat → Int32) (f3 : Nat → Int32) (f4 : Nat → Int32) (f5 : Nat → Int32) (f6 : Nat → Int32) (f7 : Nat → Int32) (f8 : Nat → Int32) (f9 : Nat → Int32) (f10 : Nat → Int32) (f17 : Nat → Int32) (f18 : Nat → Int32) (f19 : Nat → Int32) (f20 : Nat → Int32) (f21 : Nat → Int32) (f23 : Nat → Int32) (f25 : Nat → Int32) (l25_31 : Int64) (l25_32 : Int64) (f26 : Nat → Int32) (f27 : Nat → Int32) (f28 : Nat → Int32) (f29 : Nat → Int32) (f30 : Nat → Int32) (f31 : Nat → Int32) (f32 : Nat → Int32) (f33 : Nat → Int32) (f34 : Nat → Int32) (f35 : Nat → Int32) (f36 : Nat → Int32) (f37 : Nat → Int32) (f38 : Nat → Int32) (a1 : Int32), Iv f1 f2 f5 f6 f7 f9 f23 f25 f26 f37 f38 → ∃ (r : Int32) (f1' : Nat → Int32) (f2' : Nat → Int32) (f3' : Nat → Int32) (f4' : Nat → Int32) (f8' : Nat → Int32) (f9' : Nat → Int32) (f10' : Nat → Int32) (f17' : Nat → Int32) (f18' : Nat → Int32) (f19' : Nat → Int32) (f20' : Nat → Int32) (f21' : Nat → Int32) (f25' : Nat → Int32) (f26' : Nat → Int32) (f27' : Nat → Int32) (f28' : Nat → Int32) (f29' : Nat → Int32) (f30' : Nat → Int32) (f31' : Nat → Int32) (f32' : Nat → Int32) (f33' : Nat → Int32) (f34' : Nat → Int32) (f35' : Nat → Int32) (f36' : Nat → Int32), pX6_plant N a1 f1 f2 f3 f4 f8 f9 f10 f17 f18 f19 f20 f21 = some (r, f1', f2', f3', f4', f8', f9', f10', f17', f18', f19', f20', f21') ∧ pX7_plant N a1 f25 l25_31 l25_32 f26 f27 f28 f29 f30 f31 f32 f33 f34 f35 f36 = some (r, f25', f26', f27', f28', f29', f30', f31', f32', f33', f34', f35', f36') ∧ Iv f1' f2' f5 f6 f7 f9' f23 f25' f26' f37 f38) (st_open : ∀ (f1 : Nat → Int32) (f2 : Nat → Int32) (f5 : Nat → Int32) (f6 : Nat → Int32) (f7 : Nat → Int32) (f9 : Nat → Int32) (f11 : Nat → Int32) (f12 : Nat → Int32) (f13 : Nat → Int32) (f14 : Nat → Int32) (f15 : Nat → Int32) (f23 : Nat → Int32) (f25 : Nat → Int32) (l25_31 : Int64) (l25_32 : Int64) (f26 : Nat → Int32) (f27 : Nat → Int32) (f28 : Nat → Int32) (f29 : Nat → Int32) (f30 : Nat → Int32) (f31 : Nat → Int32) (f32 : Nat → Int32) (f33 : Nat → Int32) (f34 : Nat → Int32) (f35 : Nat → Int32) (f36 : Nat → Int32) (f37 : Nat → Int32) (f38 : Nat → Int32) (a1 : Int32) (a2 : Int32) (a3 : Int32), Iv f1 f2 f5 f6 f7 f9 f23 f25 f26 f37 f38 → ∃ (r : Int32) (f5' : Nat → Int32) (f6' : Nat → Int32) (f7' : Nat → Int32) (f11' : Nat → Int32) (f12' : Nat → Int32) (f13' : Nat → Int32) (f14' : Nat → Int32) (f15' : Nat → Int32) (f25' : Nat → Int32) (f27' : Nat → Int32) (f28' : Nat → Int32) (f29' : Nat → Int32) (f30' : Nat → Int32) (f31' : Nat → Int32) (f32' : Nat → Int32) (f33' : Nat → Int32) (f34' : Nat → Int32) (f35' : Nat → Int32) (f36' : Nat → Int32) (f37' : Nat → Int32) (f38' : Nat → Int32), pX6_open N a1 a2 a3 f1 f2 f5 f6 f7 f11 f12 f13 f14 f15 = some (r, f5', f6', f7', f11', f12', f13', f14', f15') ∧ pX7_open N a1 a2 a3 f25 l25_31 l25_32 f26 f27 f28 f29 f30 f31 f32 f33 f34 f35 f36 f37 f38 = some (r, f25', f27', f28', f29', f30', f31', f32', f33', f34', f35', f36', f37', f38') ∧ Iv f1 f2 f5' f6' f7' f9 f23 f25' f26 f37' f38') (st_plain : ∀ (f1 : Nat → Int32) (f2 : Nat → Int32) (f5 : Nat → Int32) (f6 : Nat → Int32) (f7 : Nat → Int32) (f9 : Nat → Int32) (f16 : Nat → Int32) (f23 : Nat → Int32) (f25 : Nat → Int32) (l25_31 : Int64) (l25_32 : Int64) (f26 : Nat → Int32) (f27 : Nat → Int32) (f28 : Nat → Int32) (f29 : Nat → Int32) (f30 : Nat → Int32) (f31 : Nat → Int32) (f32 : Nat → Int32) (f33 : Nat → Int32) (f34 : Nat → Int32) (f35 : Nat → Int32) (f36 : Nat → Int32) (f37 : Nat → Int32) (f38 : Nat → Int32) (a1 : Int32) (a2 : Int32) (a3 : Int32), Iv f1 f2 f5 f6 f7 f9 f23 f25 f26 f37 f38 → ∃ (r : Int32) (f5' : Nat → Int32) (f6' : Nat → Int32) (f7' : Nat → Int32) (f16' : Nat → Int32) (f25' : Nat → Int32) (f27' : Nat → Int32) (f28' : Nat → Int32) (f29' : Nat → Int32) (f30' : Nat → Int32) (f31' : Nat → Int32) (f32' : Nat → Int32) (f33' : Nat → Int32) (f34' : Nat → Int32) (f35' : Nat → Int32) (f36' : Nat → Int32) (f37' : Nat → Int32) (f38' : Nat → Int32), pX6_plain N a1 a2 a3 f1 f2 f5 f6 f7 f16 = some (r, f5', f6', f7', f16') ∧ pX7_plain N a1 a2 a3 f25 l25_31 l25_32 f26 f27 f28 f29 f30 f31 f32 f33 f34 f35 f36 f37 f38 = some (r, f25', f27', f28', f29', f30', f31', f32', f33', f34', f35', f36', f37', f38') ∧ Iv f1 f2 f5' f6' f7' f9 f23 f25' f26 f37' f38') (st_told : ∀ (f1 : Nat → Int32) (f2 : Nat → Int32) (f5 : Nat → Int32) (f6 : Nat → Int32) (f7 : Nat → Int32) (f9 : Nat → Int32) (f23 : Nat → Int32) (f25 : Nat → Int32) (l25_31 : Int64) (l25_32 : Int64) (f26 : Nat → Int32) (f37 : Nat → Int32) (f38 : Nat → Int32) (a1 : Int32), Iv f1 f2 f5 f6 f7 f9 f23 f25 f26 f37 f38 → ∃ (r : Int32), pX6_told a1 f5 = some r ∧ pX7_told a1 f25 l25_31 l25_32 f37 = some r ∧ Iv f1 f2 f5 f6 f7 f9 f23 f25 f26 f37 f38) (st_given : ∀ (f1 : Nat → Int32) (f2 : Nat → Int32) (f5 : Nat → Int32) (f6 : Nat → Int32) (f7 : Nat → Int32) (f9 : Nat → Int32) (f23 : Nat → Int32) (f25 : Nat → Int32) (l25_31 : Int64) (l25_32 : Int64) (f26 : Nat → Int32) (f37 : Nat → Int32) (f38 : Nat → Int32) (a1 : Int32), Iv f1 f2 f5 f6 f7 f9 f23 f25 f26 f37 f38 → ∃ (r : Int32), pX6_given a1 f5 f6 f7 = some r ∧ pX7_given a1 f25 l25_31 l25_32 f37 f38 = some r ∧ Iv f1 f2 f5 f6 f7 f9 f23 f25 f26 f37 f38) (st_shorter : ∀ (f1 : Nat → Int32) (f2 : Nat → Int32) (f3 : Nat → Int32) (f4 : Nat → Int32) (f5 : Nat → Int32) (f6 : Nat → Int32) (f7 : Nat → Int32) (f8 : Nat → Int32) (f9 : Nat → Int32) (f10 : Nat → Int32) (f17 : Nat → Int32) (f18 : Nat → Int32) (f19 : Nat → Int32) (f20 : Nat → Int32) (f21 : Nat → Int32) (f23 : Nat → Int32) (f25 : Nat → Int32) (l25_31 : Int64) (l25_32 : Int64) (f26 : Nat → Int32) (f27 : Nat → Int32) (f28 : Nat → Int32) (f29 : Nat → Int32) (f30 : Nat → Int32) (f31 : Nat → Int32) (f32 : Nat → Int32) (f33 : Nat → Int32) (f34 : Nat → Int32) (f35 : Nat → Int32) (f36 : Nat → Int32) (f37 : Nat → Int32) (f38 : Nat → Int32) (a1 : Int32) (a2 : Int32) (a3 : Int32), Iv f1 f2 f5 f6 f7 f9 f23 f25 f26 f37 f38 → ∃ (r : Int32) (f1' : Nat → Int32) (f2' : Nat → Int32) (f3' : Nat → Int32) (f4' : Nat → Int32) (f8' : Nat → Int32) (f9' : Nat → Int32) (f10' : Nat → Int32) (f17' : Nat → Int32) (f18' : Nat → Int32) (f19' : Nat → Int32) (f20' : Nat → Int32) (f21' : Nat → Int32) (f25' : Nat → Int32) (f26' : Nat → Int32) (f27' : Nat → Int32) (f28' : Nat → Int32) (f29' : Nat → Int32) (f30' : Nat → Int32) (f31' : Nat → Int32) (f32' : Nat → Int32) (f33' : Nat → Int32) (f34' : Nat → Int32) (f35' : Nat → Int32) (f36' : Nat → Int32), pX6_shorter N a1 a2 a3 f1 f2 f3 f4 f8 f9 f10 f17 f18 f19 f20 f21 = some (r, f1', f2', f3', f4', f8', f9', f10', f17', f18', f19', f20', f21') ∧ pX7_shorter N a1 a2 a3 f25 l25_31 l25_32 f26 f27 f28 f29 f30 f31 f32 f33 f34 f35 f36 = some (r, f25', f26', f27', f28', f29', f30', f31', f32', f33', f34', f35', f36') ∧ Iv f1' f2' f5 f6 f7 f9' f23 f25' f26' f37 f38) (hL : L ≤ 2560) (C0 : cx p s m #[Value.ref b] meth c code 4 RL wsL_law ret D vwCl [(cA, .int)] A) (hX : va_X b L xs s s.heap) (hbl : b < s.heap.size) (hbA : ¬ A b) (hAs : ∀ q, A q → s.heap.size ≤ q) : ∀ (n i : Nat) (x3 : Int32), i ≤ L → L + 1 ≤ i + n → x3 = nI i → ∀ (f1 : Nat → Int32) (f2 : Nat → Int32) (f3 : Nat → Int32) (f4 : Nat → Int32) (f5 : Nat → Int32) (f6 : Nat → Int32) (f7 : Nat → Int32) (f8 : Nat → Int32) (f9 : Nat → Int32) (f10 : Nat → Int32) (f11 : Nat → Int32) (f12 : Nat → Int32) (f13 : Nat → Int32) (f14 : Nat → Int32) (f15 : Nat → Int32) (f16 : Nat → Int32) (f17 : Nat → Int32) (f18 : Nat → Int32) (f19 : Nat → Int32) (f20 : Nat → Int32) (f21 : Nat → Int32) (f22 : Nat → Int32) (l22_2 : Int64) (f23 : Nat → Int32) (f24 : Nat → Int32) (f25 : Nat → Int32) (l25_31 : Int64) (l25_32 : Int64) (f26 : Nat → Int32) (f27 : Nat → Int32) (f28 : Nat → Int32) (f29 : Nat → Int32) (f30 : Nat → Int32) (f31 : Nat → Int32) (f32 : Nat → Int32) (f33 : Nat → Int32) (f34 : Nat → Int32) (f35 : Nat → Int32) (f36 : Nat → Int32) (f37 : Nat → Int32) (f38 : Nat → Int32), Iv f1 f2 f5 f6 f7 f9 f23 f25 f26 f37 f38 → At_ p l e room_1 s m #[Value.ref b] below meth c D vwCl A 4 600000 7302250 (lw_Z below #[Value.ref b] s) 18 [(0, .ref b), (1, .ref q0), (2, .ref q25), (3, .int x3)] [] (wdL_0 cA q0 q1 q2 q3 q4 q5 q6 q7 q8 q9 q10 q11 q12 q13 q14 q15 q16 q17 q18 q19 q20 q21 q22 q23 q24 q25 q26 q27 q28 q29 q30 q31 q32 q33 q34 q35 q36 q37 q38 f1 f2 f3 f4 f5 f6 f7 f8 f9 f10 f11 f12 f13 f14 f15 f16 f17 f18 f19 f20 f21 f22 l22_2 f23 f24 f25 l25_31 l25_32 f26 f27 f28 f29 f30 f31 f32 f33 f34 f35 f36 f37 f38) := by
  intro n
  induction n with
  | zero => intro i x3 h1 h2; exact absurd h2 (by omega)
  | succ n ih =>
    intro i x3 hi hin ex3 f1 f2 f3 f4 f5 f6 f7 f8 f9 f10 f11 f12 f13 f14 f15 f16 f17 f18 f19 f20 f21 f22 l22_2 f23 f24 f25 l25_31 l25_32 f26 f27 f28 f29 f30 f31 f32 f33 f34 f35 f36 f37 f38 hI
    refine a_iload_n C0 dL_law_18 rfl 3 rfl ?_
    refine a_aload_n C0 dL_law_19 rfl 0 rfl ?_
    refine a_slen C0 hX hbl hbA dL_law_20 ?_
    refine a_iconst C0 (5 : Int32) dL_law_21 (by decide) ?_
    refine a_isub C0 dL_law_22 ?_
    refine a_icmp_gt C0 535 dL_law_23 (by decide) (fun cz => ?_) (fun cz => ?_)
    · refine a_iconst C0 (1 : Int32) dL_law_535 (by decide) ?_
      intro H locs ls hP hD hS hl
      refine va_forget (fun q hq => hAs _ (hS.2.2 q hq)) ?_
      exact lw_ret C0.1.1 C0.1.2.1 C0.2.1 C0.2.2.1 dL_law_536
    have hlt : i + 5 ≤ L := sc_lt hL ex3 hi cz
    have hin0 : vp_in x3 L := by rw [ex3]; exact vp_in_nI (by omega) (by omega)
    have hin1 : vp_in (x3 + (1 : Int32)) L := by rw [ex3]; exact sc_in (k := 1) (by omega) (by omega)
    have hin2 : vp_in (x3 + (2 : Int32)) L := by rw [ex3]; exact sc_in (k := 2) (by omega) (by omega)
    have hin3 : vp_in (x3 + (3 : Int32)) L := by rw [ex3]; exact sc_in (k := 3) (by omega) (by omega)
    have hin4 : vp_in (x3 + (4 : Int32)) L := by rw [ex3]; exact sc_in (k := 4) (by omega) (by omega)
    have hback : ∀ (f1 : Nat → Int32) (f2 : Nat → Int32) (f3 : Nat → Int32) (f4 : Nat → Int32) (f5 : Nat → Int32) (f6 : Nat → Int32) (f7 : Nat → Int32) (f8 : Nat → Int32) (f9 : Nat → Int32) (f10 : Nat → Int32) (f11 : Nat → Int32) (f12 : Nat → Int32) (f13 : Nat → Int32) (f14 : Nat → Int32) (f15 : Nat → Int32) (f16 : Nat → Int32) (f17 : Nat → Int32) (f18 : Nat → Int32) (f19 : Nat → Int32) (f20 : Nat → Int32) (f21 : Nat → Int32) (f22 : Nat → Int32) (l22_2 : Int64) (f23 : Nat → Int32) (f24 : Nat → Int32) (f25 : Nat → Int32) (l25_31 : Int64) (l25_32 : Int64) (f26 : Nat → Int32) (f27 : Nat → Int32) (f28 : Nat → Int32) (f29 : Nat → Int32) (f30 : Nat → Int32) (f31 : Nat → Int32) (f32 : Nat → Int32) (f33 : Nat → Int32) (f34 : Nat → Int32) (f35 : Nat → Int32) (f36 : Nat → Int32) (f37 : Nat → Int32) (f38 : Nat → Int32), Iv f1 f2 f5 f6 f7 f9 f23 f25 f26 f37 f38 → At_ p l e room_1 s m #[Value.ref b] below meth c D vwCl A 4 600000 7302250 (lw_Z below #[Value.ref b] s) 529 [(0, .ref b), (1, .ref q0), (2, .ref q25), (3, .int x3)] [] (wdL_0 cA q0 q1 q2 q3 q4 q5 q6 q7 q8 q9 q10 q11 q12 q13 q14 q15 q16 q17 q18 q19 q20 q21 q22 q23 q24 q25 q26 q27 q28 q29 q30 q31 q32 q33 q34 q35 q36 q37 q38 f1 f2 f3 f4 f5 f6 f7 f8 f9 f10 f11 f12 f13 f14 f15 f16 f17 f18 f19 f20 f21 f22 l22_2 f23 f24 f25 l25_31 l25_32 f26 f27 f28 f29 f30 f31 f32 f33 f34 f35 f36 f37 f38) := by
      intro f1 f2 f3 f4 f5 f6 f7 f8 f9 f10 f11 f12 f13 f14 f15 f16 f17 f18 f19 f20 f21 f22 l22_2 f23 f24 f25 l25_31 l25_32 f26 f27 f28 f29 f30 f31 f32 f33 f34 f35 f36 f37 f38 hI
      obtain ⟨y3, ey3⟩ : ∃ y : Int32, y = x3 + 5 := ⟨_, rfl⟩
      refine a_iinc C0 y3 [(3, .int y3), (0, .ref b), (1, .ref q0), (2, .ref q25)] dL_law_529 3 rfl (by subst ey3; rfl) (by decide) rfl ?_
      refine a_goto C0 18 dL_law_532 (by decide) ?_
      refine a_lv [1, 2, 3, 0] (lv' := [(0, .ref b), (1, .ref q0), (2, .ref q25), (3, .int y3)]) rfl ?_
      exact ih (i + 5) y3 (by omega) (by omega) (by rw [ey3, ex3]; exact nI_add i 5) f1 f2 f3 f4 f5 f6 f7 f8 f9 f10 f11 f12 f13 f14 f15 f16 f17 f18 f19 f20 f21 f22 l22_2 f23 f24 f25 l25_31 l25_32 f26 f27 f28 f29 f30 f31 f32 f33 f34 f35 f36 f37 f38 hI
    refine a_aload_n C0 dL_law_26 rfl 0 rfl ?_
    refine a_iload_n C0 dL_law_27 rfl 3 rfl ?_
    refine a_sld C0 hX hbl hbA hin0 dL_law_28 ?_
    refine a_bipush C0 (15 : Int32) dL_law_29 (by decide) ?_
    refine a_iand C0 dL_law_31 ?_
    by_cases c0 : (xs x3.toNatClampNeg &&& 15) = (0 : Int32)
    · refine a_tableIn C0 100 dL_law_32 (by rw [c0]; decide) (by rw [c0]; decide) (by rw [c0]; rfl) (by decide) ?_
      obtain ⟨r, f1', f2', f25', f26', h6, h7, hI2⟩ := st_put f1 f2 f5 f6 f7 f9 f23 f25 l25_31 l25_32 f26 f37 f38 (xs (x3 + (1 : Int32)).toNatClampNeg) hI
      refine a_aload_n C0 dL_law_100 rfl 1 rfl ?_
      refine a_aload_n C0 dL_law_101 rfl 0 rfl ?_
      refine a_iload_n C0 dL_law_102 rfl 3 rfl ?_
      refine a_iconst C0 (1 : Int32) dL_law_103 (by decide) ?_
      refine a_iadd C0 dL_law_104 ?_
      refine a_sld C0 hX hbl hbA hin1 dL_law_105 ?_
      refine a_callVi C0 (wdL_0 cA q0 q1 q2 q3 q4 q5 q6 q7 q8 q9 q10 q11 q12 q13 q14 q15 q16 q17 q18 q19 q20 q21 q22 q23 q24 q25 q26 q27 q28 q29 q30 q31 q32 q33 q34 q35 q36 q37 q38 f1' f2' f3 f4 f5 f6 f7 f8 f9 f10 f11 f12 f13 f14 f15 f16 f17 f18 f19 f20 f21 f22 l22_2 f23 f24 f25 l25_31 l25_32 f26 f27 f28 f29 f30 f31 f32 f33 f34 f35 f36 f37 f38) (As := [.int (xs (x3 + (1 : Int32)).toNatClampNeg)]) (rest := []) (ctX6_put l D cA q0 q1 q2 q3 q5 q8 q11 q16 q17 q22 (xs (x3 + (1 : Int32)).toNatClampNeg) f1 f2 h6) (cwV 1 C0.1.2.2.2.2 gL_law_X6_put rfl rfl rfl hdX6_put ⟨Nat.le_of_ble_eq_true rfl, Nat.le_of_ble_eq_true rfl⟩) [0, 1, 2] [3, 4, 5, 6, 7, 8, 9, 10, 11, 12, 13, 14, 15, 16, 17, 18, 19, 20, 21, 22, 23, 24, 25, 26, 27, 28, 29, 30, 31, 32, 33, 34, 35, 36, 37, 38] [36, 37, 38, 0, 1, 2, 3, 4, 5, 6, 7, 8, 9, 10, 11, 12, 13, 14, 15, 16, 17, 18, 19, 20, 21, 22, 23, 24, 25, 26, 27, 28, 29, 30, 31, 32, 33, 34, 35] rfl rfl rfl rfl (by decide) rfl rfl rfl rfl rfl rfl (Nat.le_of_ble_eq_true rfl) dL_law_106 ⟨Nat.le_refl _, Nat.le_refl _⟩ ?_
      refine a_aload_n C0 dL_law_109 rfl 2 rfl ?_
      refine a_aload_n C0 dL_law_110 rfl 0 rfl ?_
      refine a_iload_n C0 dL_law_111 rfl 3 rfl ?_
      refine a_iconst C0 (1 : Int32) dL_law_112 (by decide) ?_
      refine a_iadd C0 dL_law_113 ?_
      refine a_sld C0 hX hbl hbA hin1 dL_law_114 ?_
      refine a_callVi C0 (wdL_0 cA q0 q1 q2 q3 q4 q5 q6 q7 q8 q9 q10 q11 q12 q13 q14 q15 q16 q17 q18 q19 q20 q21 q22 q23 q24 q25 q26 q27 q28 q29 q30 q31 q32 q33 q34 q35 q36 q37 q38 f1' f2' f3 f4 f5 f6 f7 f8 f9 f10 f11 f12 f13 f14 f15 f16 f17 f18 f19 f20 f21 f22 l22_2 f23 f24 f25' l25_31 l25_32 f26' f27 f28 f29 f30 f31 f32 f33 f34 f35 f36 f37 f38) (As := [.int (xs (x3 + (1 : Int32)).toNatClampNeg)]) (rest := [.int r]) (ctX7_put l D cA q25 q26 q27 q28 q29 q30 q31 q32 q33 q34 q35 q36 q37 q38 (xs (x3 + (1 : Int32)).toNatClampNeg) f25 l25_31 l25_32 f26 h7) (cwV 1 C0.1.2.2.2.2 gL_law_X7_put rfl rfl rfl hdX7_put ⟨Nat.le_of_ble_eq_true rfl, Nat.le_of_ble_eq_true rfl⟩) [25, 26] [0, 1, 2, 3, 4, 5, 6, 7, 8, 9, 10, 11, 12, 13, 14, 15, 16, 17, 18, 19, 20, 21, 22, 23, 24, 27, 28, 29, 30, 31, 32, 33, 34, 35, 36, 37, 38] [0, 1, 2, 3, 4, 5, 6, 7, 8, 9, 10, 11, 12, 13, 14, 15, 16, 17, 18, 19, 20, 21, 22, 23, 24, 37, 38, 25, 26, 27, 28, 29, 30, 31, 32, 33, 34, 35, 36] rfl rfl rfl rfl (by decide) rfl rfl rfl rfl rfl rfl (Nat.le_of_ble_eq_true rfl) dL_law_115 ⟨Nat.le_refl _, Nat.le_refl _⟩ ?_
      refine a_icmp_eq C0 529 dL_law_118 (by decide) (fun _ => ?_) (fun c9 => absurd rfl c9)
      exact hback f1' f2' f3 f4 f5 f6 f7 f8 f9 f10 f11 f12 f13 f14 f15 f16 f17 f18 f19 f20 f21 f22 l22_2 f23 f24 f25' l25_31 l25_32 f26' f27 f28 f29 f30 f31 f32 f33 f34 f35 f36 f37 f38 hI2
    by_cases c1 : (xs x3.toNatClampNeg &&& 15) = (1 : Int32)
    · refine a_tableIn C0 123 dL_law_32 (by rw [c1]; decide) (by rw [c1]; decide) (by rw [c1]; rfl) (by decide) ?_
      obtain ⟨r, f1', f25', h6, h7, hI2⟩ := st_cut f1 f2 f5 f6 f7 f9 f23 f25 l25_31 l25_32 f26 f37 f38 (xs (x3 + (1 : Int32)).toNatClampNeg) hI
      refine a_aload_n C0 dL_law_123 rfl 1 rfl ?_
      refine a_aload_n C0 dL_law_124 rfl 0 rfl ?_
      refine a_iload_n C0 dL_law_125 rfl 3 rfl ?_
      refine a_iconst C0 (1 : Int32) dL_law_126 (by decide) ?_
      refine a_iadd C0 dL_law_127 ?_
      refine a_sld C0 hX hbl hbA hin1 dL_law_128 ?_
      refine a_callVi C0 (wdL_0 cA q0 q1 q2 q3 q4 q5 q6 q7 q8 q9 q10 q11 q12 q13 q14 q15 q16 q17 q18 q19 q20 q21 q22 q23 q24 q25 q26 q27 q28 q29 q30 q31 q32 q33 q34 q35 q36 q37 q38 f1' f2 f3 f4 f5 f6 f7 f8 f9 f10 f11 f12 f13 f14 f15 f16 f17 f18 f19 f20 f21 f22 l22_2 f23 f24 f25 l25_31 l25_32 f26 f27 f28 f29 f30 f31 f32 f33 f34 f35 f36 f37 f38) (As := [.int (xs (x3 + (1 : Int32)).toNatClampNeg)]) (rest := []) (ctX6_cut l D cA q0 q1 q2 q3 q5 q8 q11 q16 q17 q22 (xs (x3 + (1 : Int32)).toNatClampNeg) f1 h6) (cwV 1 C0.1.2.2.2.2 gL_law_X6_cut rfl rfl rfl hdX6_cut ⟨Nat.le_of_ble_eq_true rfl, Nat.le_of_ble_eq_true rfl⟩) [0, 1] [2, 3, 4, 5, 6, 7, 8, 9, 10, 11, 12, 13, 14, 15, 16, 17, 18, 19, 20, 21, 22, 23, 24, 25, 26, 27, 28, 29, 30, 31, 32, 33, 34, 35, 36, 37, 38] [37, 38, 0, 1, 2, 3, 4, 5, 6, 7, 8, 9, 10, 11, 12, 13, 14, 15, 16, 17, 18, 19, 20, 21, 22, 23, 24, 25, 26, 27, 28, 29, 30, 31, 32, 33, 34, 35, 36] rfl rfl rfl rfl (by decide) rfl rfl rfl rfl rfl rfl (Nat.le_of_ble_eq_true rfl) dL_law_129 ⟨Nat.le_refl _, Nat.le_refl _⟩ ?_
      refine a_aload_n C0 dL_law_132 rfl 2 rfl ?_
      refine a_aload_n C0 dL_law_133 rfl 0 rfl ?_
      refine a_iload_n C0 dL_law_134 rfl 3 rfl ?_
      refine a_iconst C0 (1 : Int32) dL_law_135 (by decide) ?_
      refine a_iadd C0 dL_law_136 ?_
      refine a_sld C0 hX hbl hbA hin1 dL_law_137 ?_
      refine a_callVi C0 (wdL_0 cA q0 q1 q2 q3 q4 q5 q6 q7 q8 q9 q10 q11 q12 q13 q14 q15 q16 q17 q18 q19 q20 q21 q22 q23 q24 q25 q26 q27 q28 q29 q30 q31 q32 q33 q34 q35 q36 q37 q38 f1' f2 f3 f4 f5 f6 f7 f8 f9 f10 f11 f12 f13 f14 f15 f16 f17 f18 f19 f20 f21 f22 l22_2 f23 f24 f25' l25_31 l25_32 f26 f27 f28 f29 f30 f31 f32 f33 f34 f35 f36 f37 f38) (As := [.int (xs (x3 + (1 : Int32)).toNatClampNeg)]) (rest := [.int r]) (ctX7_cut l D cA q25 q26 q27 q28 q29 q30 q31 q32 q33 q34 q35 q36 q37 q38 (xs (x3 + (1 : Int32)).toNatClampNeg) f25 l25_31 l25_32 h7) (cwV 1 C0.1.2.2.2.2 gL_law_X7_cut rfl rfl rfl hdX7_cut ⟨Nat.le_of_ble_eq_true rfl, Nat.le_of_ble_eq_true rfl⟩) [25] [0, 1, 2, 3, 4, 5, 6, 7, 8, 9, 10, 11, 12, 13, 14, 15, 16, 17, 18, 19, 20, 21, 22, 23, 24, 26, 27, 28, 29, 30, 31, 32, 33, 34, 35, 36, 37, 38] [0, 1, 2, 3, 4, 5, 6, 7, 8, 9, 10, 11, 12, 13, 14, 15, 16, 17, 18, 19, 20, 21, 22, 23, 24, 38, 25, 26, 27, 28, 29, 30, 31, 32, 33, 34, 35, 36, 37] rfl rfl rfl rfl (by decide) rfl rfl rfl rfl rfl rfl (Nat.le_of_ble_eq_true rfl) dL_law_138 ⟨Nat.le_refl _, Nat.le_refl _⟩ ?_
      refine a_icmp_eq C0 529 dL_law_141 (by decide) (fun _ => ?_) (fun c9 => absurd rfl c9)
      exact hback f1' f2 f3 f4 f5 f6 f7 f8 f9 f10 f11 f12 f13 f14 f15 f16 f17 f18 f19 f20 f21 f22 l22_2 f23 f24 f25' l25_31 l25_32 f26 f27 f28 f29 f30 f31 f32 f33 f34 f35 f36 f37 f38 hI2
    by_cases c2 : (xs x3.toNatClampNeg &&& 15) = (2 : Int32)
    · refine a_tableIn C0 146 dL_law_32 (by rw [c2]; decide) (by rw [c2]; decide) (by rw [c2]; rfl) (by decide) ?_
      obtain ⟨r, f2', f26', h6, h7, hI2⟩ := st_poke f1 f2 f5 f6 f7 f9 f23 f25 l25_31 l25_32 f26 f37 f38 (xs (x3 + (1 : Int32)).toNatClampNeg) (xs (x3 + (2 : Int32)).toNatClampNeg) hI
      refine a_aload_n C0 dL_law_146 rfl 1 rfl ?_
      refine a_aload_n C0 dL_law_147 rfl 0 rfl ?_
      refine a_iload_n C0 dL_law_148 rfl 3 rfl ?_
      refine a_iconst C0 (1 : Int32) dL_law_149 (by decide) ?_
      refine a_iadd C0 dL_law_150 ?_
      refine a_sld C0 hX hbl hbA hin1 dL_law_151 ?_
      refine a_aload_n C0 dL_law_152 rfl 0 rfl ?_
      refine a_iload_n C0 dL_law_153 rfl 3 rfl ?_
      refine a_iconst C0 (2 : Int32) dL_law_154 (by decide) ?_
      refine a_iadd C0 dL_law_155 ?_
      refine a_sld C0 hX hbl hbA hin2 dL_law_156 ?_
      refine a_callVi C0 (wdL_0 cA q0 q1 q2 q3 q4 q5 q6 q7 q8 q9 q10 q11 q12 q13 q14 q15 q16 q17 q18 q19 q20 q21 q22 q23 q24 q25 q26 q27 q28 q29 q30 q31 q32 q33 q34 q35 q36 q37 q38 f1 f2' f3 f4 f5 f6 f7 f8 f9 f10 f11 f12 f13 f14 f15 f16 f17 f18 f19 f20 f21 f22 l22_2 f23 f24 f25 l25_31 l25_32 f26 f27 f28 f29 f30 f31 f32 f33 f34 f35 f36 f37 f38) (As := [.int (xs (x3 + (1 : Int32)).toNatClampNeg), .int (xs (x3 + (2 : Int32)).toNatClampNeg)]) (rest := []) (ctX6_poke l D cA q0 q1 q2 q3 q5 q8 q11 q16 q17 q22 (xs (x3 + (1 : Int32)).toNatClampNeg) (xs (x3 + (2 : Int32)).toNatClampNeg) f1 f2 h6) (cwV 2 C0.1.2.2.2.2 gL_law_X6_poke rfl rfl rfl hdX6_poke ⟨Nat.le_of_ble_eq_true rfl, Nat.le_of_ble_eq_true rfl⟩) [0, 1, 2] [3, 4, 5, 6, 7, 8, 9, 10, 11, 12, 13, 14, 15, 16, 17, 18, 19, 20, 21, 22, 23, 24, 25, 26, 27, 28, 29, 30, 31, 32, 33, 34, 35, 36, 37, 38] [36, 37, 38, 0, 1, 2, 3, 4, 5, 6, 7, 8, 9, 10, 11, 12, 13, 14, 15, 16, 17, 18, 19, 20, 21, 22, 23, 24, 25, 26, 27, 28, 29, 30, 31, 32, 33, 34, 35] rfl rfl rfl rfl (by decide) rfl rfl rfl rfl rfl rfl (Nat.le_of_ble_eq_true rfl) dL_law_157 ⟨Nat.le_refl _, Nat.le_refl _⟩ ?_
      refine a_aload_n C0 dL_law_160 rfl 2 rfl ?_
      refine a_aload_n C0 dL_law_161 rfl 0 rfl ?_
      refine a_iload_n C0 dL_law_162 rfl 3 rfl ?_
      refine a_iconst C0 (1 : Int32) dL_law_163 (by decide) ?_
      refine a_iadd C0 dL_law_164 ?_
      refine a_sld C0 hX hbl hbA hin1 dL_law_165 ?_
      refine a_aload_n C0 dL_law_166 rfl 0 rfl ?_
      refine a_iload_n C0 dL_law_167 rfl 3 rfl ?_
      refine a_iconst C0 (2 : Int32) dL_law_168 (by decide) ?_
      refine a_iadd C0 dL_law_169 ?_
      refine a_sld C0 hX hbl hbA hin2 dL_law_170 ?_
      refine a_callVi C0 (wdL_0 cA q0 q1 q2 q3 q4 q5 q6 q7 q8 q9 q10 q11 q12 q13 q14 q15 q16 q17 q18 q19 q20 q21 q22 q23 q24 q25 q26 q27 q28 q29 q30 q31 q32 q33 q34 q35 q36 q37 q38 f1 f2' f3 f4 f5 f6 f7 f8 f9 f10 f11 f12 f13 f14 f15 f16 f17 f18 f19 f20 f21 f22 l22_2 f23 f24 f25 l25_31 l25_32 f26' f27 f28 f29 f30 f31 f32 f33 f34 f35 f36 f37 f38) (As := [.int (xs (x3 + (1 : Int32)).toNatClampNeg), .int (xs (x3 + (2 : Int32)).toNatClampNeg)]) (rest := [.int r]) (ctX7_poke l D cA q25 q26 q27 q28 q29 q30 q31 q32 q33 q34 q35 q36 q37 q38 (xs (x3 + (1 : Int32)).toNatClampNeg) (xs (x3 + (2 : Int32)).toNatClampNeg) f25 l25_31 l25_32 f26 h7) (cwV 2 C0.1.2.2.2.2 gL_law_X7_poke rfl rfl rfl hdX7_poke ⟨Nat.le_of_ble_eq_true rfl, Nat.le_of_ble_eq_true rfl⟩) [25, 26] [0, 1, 2, 3, 4, 5, 6, 7, 8, 9, 10, 11, 12, 13, 14, 15, 16, 17, 18, 19, 20, 21, 22, 23, 24, 27, 28, 29, 30, 31, 32, 33, 34, 35, 36, 37, 38] [0, 1, 2, 3, 4, 5, 6, 7, 8, 9, 10, 11, 12, 13, 14, 15, 16, 17, 18, 19, 20, 21, 22, 23, 24, 37, 38, 25, 26, 27, 28, 29, 30, 31, 32, 33, 34, 35, 36] rfl rfl rfl rfl (by decide) rfl rfl rfl rfl rfl rfl (Nat.le_of_ble_eq_true rfl) dL_law_171 ⟨Nat.le_refl _, Nat.le_refl _⟩ ?_
      refine a_icmp_eq C0 529 dL_law_174 (by decide) (fun _ => ?_) (fun c9 => absurd rfl c9)
      exact hback f1 f2' f3 f4 f5 f6 f7 f8 f9 f10 f11 f12 f13 f14 f15 f16 f17 f18 f19 f20 f21 f22 l22_2 f23 f24 f25 l25_31 l25_32 f26' f27 f28 f29 f30 f31 f32 f33 f34 f35 f36 f37 f38 hI2
    by_cases c3 : (xs x3.toNatClampNeg &&& 15) = (3 : Int32)
    · refine a_tableIn C0 179 dL_law_32 (by rw [c3]; decide) (by rw [c3]; decide) (by rw [c3]; rfl) (by decide) ?_
      obtain ⟨r, h6, h7, hI2⟩ := st_at f1 f2 f5 f6 f7 f9 f23 f25 l25_31 l25_32 f26 f37 f38 (xs (x3 + (1 : Int32)).toNatClampNeg) hI
      refine a_aload_n C0 dL_law_179 rfl 1 rfl ?_
      refine a_aload_n C0 dL_law_180 rfl 0 rfl ?_
      refine a_iload_n C0 dL_law_181 rfl 3 rfl ?_
      refine a_iconst C0 (1 : Int32) dL_law_182 (by decide) ?_
      refine a_iadd C0 dL_law_183 ?_
      refine a_sld C0 hX hbl hbA hin1 dL_law_184 ?_
      refine a_callVi C0 (wdL_0 cA q0 q1 q2 q3 q4 q5 q6 q7 q8 q9 q10 q11 q12 q13 q14 q15 q16 q17 q18 q19 q20 q21 q22 q23 q24 q25 q26 q27 q28 q29 q30 q31 q32 q33 q34 q35 q36 q37 q38 f1 f2 f3 f4 f5 f6 f7 f8 f9 f10 f11 f12 f13 f14 f15 f16 f17 f18 f19 f20 f21 f22 l22_2 f23 f24 f25 l25_31 l25_32 f26 f27 f28 f29 f30 f31 f32 f33 f34 f35 f36 f37 f38) (As := [.int (xs (x3 + (1 : Int32)).toNatClampNeg)]) (rest := []) (ctX6_at l D cA q0 q1 q2 q3 q5 q8 q11 q16 q17 q22 (xs (x3 + (1 : Int32)).toNatClampNeg) f1 f2 h6) (cwV 1 C0.1.2.2.2.2 gL_law_X6_at rfl rfl rfl hdX6_at ⟨Nat.le_of_ble_eq_true rfl, Nat.le_of_ble_eq_true rfl⟩) [0, 1, 2] [3, 4, 5, 6, 7, 8, 9, 10, 11, 12, 13, 14, 15, 16, 17, 18, 19, 20, 21, 22, 23, 24, 25, 26, 27, 28, 29, 30, 31, 32, 33, 34, 35, 36, 37, 38] [36, 37, 38, 0, 1, 2, 3, 4, 5, 6, 7, 8, 9, 10, 11, 12, 13, 14, 15, 16, 17, 18, 19, 20, 21, 22, 23, 24, 25, 26, 27, 28, 29, 30, 31, 32, 33, 34, 35] rfl rfl rfl rfl (by decide) rfl rfl rfl rfl rfl rfl (Nat.le_of_ble_eq_true rfl) dL_law_185 ⟨Nat.le_refl _, Nat.le_refl _⟩ ?_
      refine a_aload_n C0 dL_law_188 rfl 2 rfl ?_
      refine a_aload_n C0 dL_law_189 rfl 0 rfl ?_
      refine a_iload_n C0 dL_law_190 rfl 3 rfl ?_
      refine a_iconst C0 (1 : Int32) dL_law_191 (by decide) ?_
      refine a_iadd C0 dL_law_192 ?_
      refine a_sld C0 hX hbl hbA hin1 dL_law_193 ?_
      refine a_callVi C0 (wdL_0 cA q0 q1 q2 q3 q4 q5 q6 q7 q8 q9 q10 q11 q12 q13 q14 q15 q16 q17 q18 q19 q20 q21 q22 q23 q24 q25 q26 q27 q28 q29 q30 q31 q32 q33 q34 q35 q36 q37 q38 f1 f2 f3 f4 f5 f6 f7 f8 f9 f10 f11 f12 f13 f14 f15 f16 f17 f18 f19 f20 f21 f22 l22_2 f23 f24 f25 l25_31 l25_32 f26 f27 f28 f29 f30 f31 f32 f33 f34 f35 f36 f37 f38) (As := [.int (xs (x3 + (1 : Int32)).toNatClampNeg)]) (rest := [.int r]) (ctX7_at l D cA q25 q26 q27 q28 q29 q30 q31 q32 q33 q34 q35 q36 q37 q38 (xs (x3 + (1 : Int32)).toNatClampNeg) f25 l25_31 l25_32 f26 h7) (cwV 1 C0.1.2.2.2.2 gL_law_X7_at rfl rfl rfl hdX7_at ⟨Nat.le_of_ble_eq_true rfl, Nat.le_of_ble_eq_true rfl⟩) [25, 26] [0, 1, 2, 3, 4, 5, 6, 7, 8, 9, 10, 11, 12, 13, 14, 15, 16, 17, 18, 19, 20, 21, 22, 23, 24, 27, 28, 29, 30, 31, 32, 33, 34, 35, 36, 37, 38] [0, 1, 2, 3, 4, 5, 6, 7, 8, 9, 10, 11, 12, 13, 14, 15, 16, 17, 18, 19, 20, 21, 22, 23, 24, 37, 38, 25, 26, 27, 28, 29, 30, 31, 32, 33, 34, 35, 36] rfl rfl rfl rfl (by decide) rfl rfl rfl rfl rfl rfl (Nat.le_of_ble_eq_true rfl) dL_law_194 ⟨Nat.le_refl _, Nat.le_refl _⟩ ?_
      refine a_icmp_eq C0 529 dL_law_197 (by decide) (fun _ => ?_) (fun c9 => absurd rfl c9)
      exact hback f1 f2 f3 f4 f5 f6 f7 f8 f9 f10 f11 f12 f13 f14 f15 f16 f17 f18 f19 f20 f21 f22 l22_2 f23 f24 f25 l25_31 l25_32 f26 f27 f28 f29 f30 f31 f32 f33 f34 f35 f36 f37 f38 hI2
    by_cases c4 : (xs x3.toNatClampNeg &&& 15) = (4 : Int32)
    · refine a_tableIn C0 202 dL_law_32 (by rw [c4]; decide) (by rw [c4]; decide) (by rw [c4]; rfl) (by decide) ?_
      obtain ⟨r, h6, h7, hI2⟩ := st_length f1 f2 f5 f6 f7 f9 f23 f25 l25_31 l25_32 f26 f37 f38  hI
      refine a_aload_n C0 dL_law_202 rfl 1 rfl ?_
      refine a_callVi C0 (wdL_0 cA q0 q1 q2 q3 q4 q5 q6 q7 q8 q9 q10 q11 q12 q13 q14 q15 q16 q17 q18 q19 q20 q21 q22 q23 q24 q25 q26 q27 q28 q29 q30 q31 q32 q33 q34 q35 q36 q37 q38 f1 f2 f3 f4 f5 f6 f7 f8 f9 f10 f11 f12 f13 f14 f15 f16 f17 f18 f19 f20 f21 f22 l22_2 f23 f24 f25 l25_31 l25_32 f26 f27 f28 f29 f30 f31 f32 f33 f34 f35 f36 f37 f38) (As := []) (rest := []) (ctX6_length l D cA q0 q1 q2 q3 q5 q8 q11 q16 q17 q22 f1 h6) (cwV 0 C0.1.2.2.2.2 gL_law_X6_length rfl rfl rfl hdX6_length ⟨Nat.le_of_ble_eq_true rfl, Nat.le_of_ble_eq_true rfl⟩) [0, 1] [2, 3, 4, 5, 6, 7, 8, 9, 10, 11, 12, 13, 14, 15, 16, 17, 18, 19, 20, 21, 22, 23, 24, 25, 26, 27, 28, 29, 30, 31, 32, 33, 34, 35, 36, 37, 38] [37, 38, 0, 1, 2, 3, 4, 5, 6, 7, 8, 9, 10, 11, 12, 13, 14, 15, 16, 17, 18, 19, 20, 21, 22, 23, 24, 25, 26, 27, 28, 29, 30, 31, 32, 33, 34, 35, 36] rfl rfl rfl rfl (by decide) rfl rfl rfl rfl rfl rfl (Nat.le_of_ble_eq_true rfl) dL_law_203 ⟨Nat.le_refl _, Nat.le_refl _⟩ ?_
      refine a_aload_n C0 dL_law_206 rfl 2 rfl ?_
      refine a_callVi C0 (wdL_0 cA q0 q1 q2 q3 q4 q5 q6 q7 q8 q9 q10 q11 q12 q13 q14 q15 q16 q17 q18 q19 q20 q21 q22 q23 q24 q25 q26 q27 q28 q29 q30 q31 q32 q33 q34 q35 q36 q37 q38 f1 f2 f3 f4 f5 f6 f7 f8 f9 f10 f11 f12 f13 f14 f15 f16 f17 f18 f19 f20 f21 f22 l22_2 f23 f24 f25 l25_31 l25_32 f26 f27 f28 f29 f30 f31 f32 f33 f34 f35 f36 f37 f38) (As := []) (rest := [.int r]) (ctX7_length l D cA q25 q26 q27 q28 q29 q30 q31 q32 q33 q34 q35 q36 q37 q38 f25 l25_31 l25_32 h7) (cwV 0 C0.1.2.2.2.2 gL_law_X7_length rfl rfl rfl hdX7_length ⟨Nat.le_of_ble_eq_true rfl, Nat.le_of_ble_eq_true rfl⟩) [25] [0, 1, 2, 3, 4, 5, 6, 7, 8, 9, 10, 11, 12, 13, 14, 15, 16, 17, 18, 19, 20, 21, 22, 23, 24, 26, 27, 28, 29, 30, 31, 32, 33, 34, 35, 36, 37, 38] [0, 1, 2, 3, 4, 5, 6, 7, 8, 9, 10, 11, 12, 13, 14, 15, 16, 17, 18, 19, 20, 21, 22, 23, 24, 38, 25, 26, 27, 28, 29, 30, 31, 32, 33, 34, 35, 36, 37] rfl rfl rfl rfl (by decide) rfl rfl rfl rfl rfl rfl (Nat.le_of_ble_eq_true rfl) dL_law_207 ⟨Nat.le_refl _, Nat.le_refl _⟩ ?_
      refine a_icmp_eq C0 529 dL_law_210 (by decide) (fun _ => ?_) (fun c9 => absurd rfl c9)
      exact hback f1 f2 f3 f4 f5 f6 f7 f8 f9 f10 f11 f12 f13 f14 f15 f16 f17 f18 f19 f20 f21 f22 l22_2 f23 f24 f25 l25_31 l25_32 f26 f27 f28 f29 f30 f31 f32 f33 f34 f35 f36 f37 f38 hI2
    by_cases c5 : (xs x3.toNatClampNeg &&& 15) = (5 : Int32)
    · refine a_tableIn C0 215 dL_law_32 (by rw [c5]; decide) (by rw [c5]; decide) (by rw [c5]; rfl) (by decide) ?_
      obtain ⟨r, f1', f2', f22', l22_2', f23', f24', f25', l25_31', l25_32', f26', f27', f28', f29', f30', f31', f32', f33', h6, h7, hI2⟩ := st_draw f1 f2 f5 f6 f7 f9 f22 l22_2 f23 f24 f25 l25_31 l25_32 f26 f27 f28 f29 f30 f31 f32 f33 f37 f38 (((xs (x3 + (1 : Int32)).toNatClampNeg).toInt64 <<< ((32 : Int32).toInt64 &&& 63)) ||| ((xs (x3 + (2 : Int32)).toNatClampNeg).toInt64 &&& (4294967295 : Int64))) (xs (x3 + (3 : Int32)).toNatClampNeg) (xs (x3 + (4 : Int32)).toNatClampNeg) hI
      refine a_aload_n C0 dL_law_215 rfl 1 rfl ?_
      refine a_aload_n C0 dL_law_216 rfl 0 rfl ?_
      refine a_iload_n C0 dL_law_217 rfl 3 rfl ?_
      refine a_iconst C0 (1 : Int32) dL_law_218 (by decide) ?_
      refine a_iadd C0 dL_law_219 ?_
      refine a_sld C0 hX hbl hbA hin1 dL_law_220 ?_
      refine a_i2l C0 dL_law_221 ?_
      refine a_bipush C0 (32 : Int32) dL_law_222 (by decide) ?_
      refine a_lshl C0 dL_law_224 ?_
      refine a_aload_n C0 dL_law_225 rfl 0 rfl ?_
      refine a_iload_n C0 dL_law_226 rfl 3 rfl ?_
      refine a_iconst C0 (2 : Int32) dL_law_227 (by decide) ?_
      refine a_iadd C0 dL_law_228 ?_
      refine a_sld C0 hX hbl hbA hin2 dL_law_229 ?_
      refine a_i2l C0 dL_law_230 ?_
      refine a_ldc2 C0 (4294967295 : Int64) lkL_law_36 dL_law_231 ?_
      refine a_land C0 dL_law_234 ?_
      refine a_lor C0 dL_law_235 ?_
      refine a_aload_n C0 dL_law_236 rfl 0 rfl ?_
      refine a_iload_n C0 dL_law_237 rfl 3 rfl ?_
      refine a_iconst C0 (3 : Int32) dL_law_238 (by decide) ?_
      refine a_iadd C0 dL_law_239 ?_
      refine a_sld C0 hX hbl hbA hin3 dL_law_240 ?_
      refine a_aload_n C0 dL_law_241 rfl 0 rfl ?_
      refine a_iload_n C0 dL_law_242 rfl 3 rfl ?_
      refine a_iconst C0 (4 : Int32) dL_law_243 (by decide) ?_
      refine a_iadd C0 dL_law_244 ?_
      refine a_sld C0 hX hbl hbA hin4 dL_law_245 ?_
      refine a_callVi C0 (wdL_0 cA q0 q1 q2 q3 q4 q5 q6 q7 q8 q9 q10 q11 q12 q13 q14 q15 q16 q17 q18 q19 q20 q21 q22 q23 q24 q25 q26 q27 q28 q29 q30 q31 q32 q33 q34 q35 q36 q37 q38 f1' f2' f3 f4 f5 f6 f7 f8 f9 f10 f11 f12 f13 f14 f15 f16 f17 f18 f19 f20 f21 f22' l22_2' f23' f24' f25 l25_31 l25_32 f26 f27 f28 f29 f30 f31 f32 f33 f34 f35 f36 f37 f38) (As := [.long (((xs (x3 + (1 : Int32)).toNatClampNeg).toInt64 <<< ((32 : Int32).toInt64 &&& 63)) ||| ((xs (x3 + (2 : Int32)).toNatClampNeg).toInt64 &&& (4294967295 : Int64))), .int (xs (x3 + (3 : Int32)).toNatClampNeg), .int (xs (x3 + (4 : Int32)).toNatClampNeg)]) (rest := []) (ctX6_draw l D cA q0 q1 q2 q3 q5 q8 q11 q16 q17 q22 q23 q24 N (((xs (x3 + (1 : Int32)).toNatClampNeg).toInt64 <<< ((32 : Int32).toInt64 &&& 63)) ||| ((xs (x3 + (2 : Int32)).toNatClampNeg).toInt64 &&& (4294967295 : Int64))) (xs (x3 + (3 : Int32)).toNatClampNeg) (xs (x3 + (4 : Int32)).toNatClampNeg) f1 f2 f22 l22_2 f23 f24 h6) (cwV 3 C0.1.2.2.2.2 gL_law_X6_draw rfl rfl rfl hdX6_draw ⟨Nat.le_of_ble_eq_true rfl, Nat.le_of_ble_eq_true rfl⟩) [0, 1, 2, 22, 23, 24] [3, 4, 5, 6, 7, 8, 9, 10, 11, 12, 13, 14, 15, 16, 17, 18, 19, 20, 21, 25, 26, 27, 28, 29, 30, 31, 32, 33, 34, 35, 36, 37, 38] [33, 34, 35, 0, 1, 2, 3, 4, 5, 6, 7, 8, 9, 10, 11, 12, 13, 14, 15, 16, 17, 18, 36, 37, 38, 19, 20, 21, 22, 23, 24, 25, 26, 27, 28, 29, 30, 31, 32] rfl rfl rfl rfl (by decide) rfl rfl rfl rfl rfl rfl (Nat.le_of_ble_eq_true rfl) dL_law_246 ⟨Nat.le_refl _, Nat.le_refl _⟩ ?_
      refine a_aload_n C0 dL_law_249 rfl 2 rfl ?_
      refine a_aload_n C0 dL_law_250 rfl 0 rfl ?_
      refine a_iload_n C0 dL_law_251 rfl 3 rfl ?_
      refine a_iconst C0 (1 : Int32) dL_law_252 (by decide) ?_
      refine a_iadd C0 dL_law_253 ?_
      refine a_sld C0 hX hbl hbA hin1 dL_law_254 ?_
      refine a_i2l C0 dL_law_255 ?_
      refine a_bipush C0 (32 : Int32) dL_law_256 (by decide) ?_
      refine a_lshl C0 dL_law_258 ?_
      refine a_aload_n C0 dL_law_259 rfl 0 rfl ?_
      refine a_iload_n C0 dL_law_260 rfl 3 rfl ?_
      refine a_iconst C0 (2 : Int32) dL_law_261 (by decide) ?_
      refine a_iadd C0 dL_law_262 ?_
      refine a_sld C0 hX hbl hbA hin2 dL_law_263 ?_
      refine a_i2l C0 dL_law_264 ?_
      refine a_ldc2 C0 (4294967295 : Int64) lkL_law_36 dL_law_265 ?_
      refine a_land C0 dL_law_268 ?_
      refine a_lor C0 dL_law_269 ?_
      refine a_aload_n C0 dL_law_270 rfl 0 rfl ?_
      refine a_iload_n C0 dL_law_271 rfl 3 rfl ?_
      refine a_iconst C0 (3 : Int32) dL_law_272 (by decide) ?_
      refine a_iadd C0 dL_law_273 ?_
      refine a_sld C0 hX hbl hbA hin3 dL_law_274 ?_
      refine a_aload_n C0 dL_law_275 rfl 0 rfl ?_
      refine a_iload_n C0 dL_law_276 rfl 3 rfl ?_
      refine a_iconst C0 (4 : Int32) dL_law_277 (by decide) ?_
      refine a_iadd C0 dL_law_278 ?_
      refine a_sld C0 hX hbl hbA hin4 dL_law_279 ?_
      refine a_callVi C0 (wdL_0 cA q0 q1 q2 q3 q4 q5 q6 q7 q8 q9 q10 q11 q12 q13 q14 q15 q16 q17 q18 q19 q20 q21 q22 q23 q24 q25 q26 q27 q28 q29 q30 q31 q32 q33 q34 q35 q36 q37 q38 f1' f2' f3 f4 f5 f6 f7 f8 f9 f10 f11 f12 f13 f14 f15 f16 f17 f18 f19 f20 f21 f22' l22_2' f23' f24' f25' l25_31' l25_32' f26' f27' f28' f29' f30' f31' f32' f33' f34 f35 f36 f37 f38) (As := [.long (((xs (x3 + (1 : Int32)).toNatClampNeg).toInt64 <<< ((32 : Int32).toInt64 &&& 63)) ||| ((xs (x3 + (2 : Int32)).toNatClampNeg).toInt64 &&& (4294967295 : Int64))), .int (xs (x3 + (3 : Int32)).toNatClampNeg), .int (xs (x3 + (4 : Int32)).toNatClampNeg)]) (rest := [.int r]) (ctX7_draw l D cA q25 q26 q27 q28 q29 q30 q31 q32 q33 q34 q35 q36 q37 q38 N (((xs (x3 + (1 : Int32)).toNatClampNeg).toInt64 <<< ((32 : Int32).toInt64 &&& 63)) ||| ((xs (x3 + (2 : Int32)).toNatClampNeg).toInt64 &&& (4294967295 : Int64))) (xs (x3 + (3 : Int32)).toNatClampNeg) (xs (x3 + (4 : Int32)).toNatClampNeg) f25 l25_31 l25_32 f26 f27 f28 f29 f30 f31 f32 f33 h7) (cwV 3 C0.1.2.2.2.2 gL_law_X7_draw rfl rfl rfl hdX7_draw ⟨Nat.le_of_ble_eq_true rfl, Nat.le_of_ble_eq_true rfl⟩) [25, 26, 27, 28, 29, 30, 31, 32, 33] [0, 1, 2, 3, 4, 5, 6, 7, 8, 9, 10, 11, 12, 13, 14, 15, 16, 17, 18, 19, 20, 21, 22, 23, 24, 34, 35, 36, 37, 38] [0, 1, 2, 3, 4, 5, 6, 7, 8, 9, 10, 11, 12, 13, 14, 15, 16, 17, 18, 19, 20, 21, 22, 23, 24, 30, 31, 32, 33, 34, 35, 36, 37, 38, 25, 26, 27, 28, 29] rfl rfl rfl rfl (by decide) rfl rfl rfl rfl rfl rfl (Nat.le_of_ble_eq_true rfl) dL_law_280 ⟨Nat.le_refl _, Nat.le_refl _⟩ ?_
      refine a_icmp_eq C0 529 dL_law_283 (by decide) (fun _ => ?_) (fun c9 => absurd rfl c9)
      exact hback f1' f2' f3 f4 f5 f6 f7 f8 f9 f10 f11 f12 f13 f14 f15 f16 f17 f18 f19 f20 f21 f22' l22_2' f23' f24' f25' l25_31' l25_32' f26' f27' f28' f29' f30' f31' f32' f33' f34 f35 f36 f37 f38 hI2
    by_cases c6 : (xs x3.toNatClampNeg &&& 15) = (6 : Int32)
    · refine a_tableIn C0 288 dL_law_32 (by rw [c6]; decide) (by rw [c6]; decide) (by rw [c6]; rfl) (by decide) ?_
      obtain ⟨r, f1', f2', f25', f26', h6, h7, hI2⟩ := st_bomb f1 f2 f5 f6 f7 f9 f23 f25 l25_31 l25_32 f26 f37 f38 (xs (x3 + (1 : Int32)).toNatClampNeg) (xs (x3 + (2 : Int32)).toNatClampNeg) (xs (x3 + (3 : Int32)).toNatClampNeg) hI
      refine a_aload_n C0 dL_law_288 rfl 1 rfl ?_
      refine a_aload_n C0 dL_law_289 rfl 0 rfl ?_
      refine a_iload_n C0 dL_law_290 rfl 3 rfl ?_
      refine a_iconst C0 (1 : Int32) dL_law_291 (by decide) ?_
      refine a_iadd C0 dL_law_292 ?_
      refine a_sld C0 hX hbl hbA hin1 dL_law_293 ?_
      refine a_aload_n C0 dL_law_294 rfl 0 rfl ?_
      refine a_iload_n C0 dL_law_295 rfl 3 rfl ?_
      refine a_iconst C0 (2 : Int32) dL_law_296 (by decide) ?_
      refine a_iadd C0 dL_law_297 ?_
      refine a_sld C0 hX hbl hbA hin2 dL_law_298 ?_
      refine a_aload_n C0 dL_law_299 rfl 0 rfl ?_
      refine a_iload_n C0 dL_law_300 rfl 3 rfl ?_
      refine a_iconst C0 (3 : Int32) dL_law_301 (by decide) ?_
      refine a_iadd C0 dL_law_302 ?_
      refine a_sld C0 hX hbl hbA hin3 dL_law_303 ?_
      refine a_callVi C0 (wdL_0 cA q0 q1 q2 q3 q4 q5 q6 q7 q8 q9 q10 q11 q12 q13 q14 q15 q16 q17 q18 q19 q20 q21 q22 q23 q24 q25 q26 q27 q28 q29 q30 q31 q32 q33 q34 q35 q36 q37 q38 f1' f2' f3 f4 f5 f6 f7 f8 f9 f10 f11 f12 f13 f14 f15 f16 f17 f18 f19 f20 f21 f22 l22_2 f23 f24 f25 l25_31 l25_32 f26 f27 f28 f29 f30 f31 f32 f33 f34 f35 f36 f37 f38) (As := [.int (xs (x3 + (1 : Int32)).toNatClampNeg), .int (xs (x3 + (2 : Int32)).toNatClampNeg), .int (xs (x3 + (3 : Int32)).toNatClampNeg)]) (rest := []) (ctX6_bomb l D cA q0 q1 q2 q3 q5 q8 q11 q16 q17 q22 N (xs (x3 + (1 : Int32)).toNatClampNeg) (xs (x3 + (2 : Int32)).toNatClampNeg) (xs (x3 + (3 : Int32)).toNatClampNeg) f1 f2 h6) (cwV 3 C0.1.2.2.2.2 gL_law_X6_bomb rfl rfl rfl hdX6_bomb ⟨Nat.le_of_ble_eq_true rfl, Nat.le_of_ble_eq_true rfl⟩) [0, 1, 2] [3, 4, 5, 6, 7, 8, 9, 10, 11, 12, 13, 14, 15, 16, 17, 18, 19, 20, 21, 22, 23, 24, 25, 26, 27, 28, 29, 30, 31, 32, 33, 34, 35, 36, 37, 38] [36, 37, 38, 0, 1, 2, 3, 4, 5, 6, 7, 8, 9, 10, 11, 12, 13, 14, 15, 16, 17, 18, 19, 20, 21, 22, 23, 24, 25, 26, 27, 28, 29, 30, 31, 32, 33, 34, 35] rfl rfl rfl rfl (by decide) rfl rfl rfl rfl rfl rfl (Nat.le_of_ble_eq_true rfl) dL_law_304 ⟨Nat.le_refl _, Nat.le_refl _⟩ ?_
      refine a_aload_n C0 dL_law_307 rfl 2 rfl ?_
      refine a_aload_n C0 dL_law_308 rfl 0 rfl ?_
      refine a_iload_n C0 dL_law_309 rfl 3 rfl ?_
      refine a_iconst C0 (1 : Int32) dL_law_310 (by decide) ?_
      refine a_iadd C0 dL_law_311 ?_
      refine a_sld C0 hX hbl hbA hin1 dL_law_312 ?_
      refine a_aload_n C0 dL_law_313 rfl 0 rfl ?_
      refine a_iload_n C0 dL_law_314 rfl 3 rfl ?_
      refine a_iconst C0 (2 : Int32) dL_law_315 (by decide) ?_
      refine a_iadd C0 dL_law_316 ?_
      refine a_sld C0 hX hbl hbA hin2 dL_law_317 ?_
      refine a_aload_n C0 dL_law_318 rfl 0 rfl ?_
      refine a_iload_n C0 dL_law_319 rfl 3 rfl ?_
      refine a_iconst C0 (3 : Int32) dL_law_320 (by decide) ?_
      refine a_iadd C0 dL_law_321 ?_
      refine a_sld C0 hX hbl hbA hin3 dL_law_322 ?_
      refine a_callVi C0 (wdL_0 cA q0 q1 q2 q3 q4 q5 q6 q7 q8 q9 q10 q11 q12 q13 q14 q15 q16 q17 q18 q19 q20 q21 q22 q23 q24 q25 q26 q27 q28 q29 q30 q31 q32 q33 q34 q35 q36 q37 q38 f1' f2' f3 f4 f5 f6 f7 f8 f9 f10 f11 f12 f13 f14 f15 f16 f17 f18 f19 f20 f21 f22 l22_2 f23 f24 f25' l25_31 l25_32 f26' f27 f28 f29 f30 f31 f32 f33 f34 f35 f36 f37 f38) (As := [.int (xs (x3 + (1 : Int32)).toNatClampNeg), .int (xs (x3 + (2 : Int32)).toNatClampNeg), .int (xs (x3 + (3 : Int32)).toNatClampNeg)]) (rest := [.int r]) (ctX7_bomb l D cA q25 q26 q27 q28 q29 q30 q31 q32 q33 q34 q35 q36 q37 q38 N (xs (x3 + (1 : Int32)).toNatClampNeg) (xs (x3 + (2 : Int32)).toNatClampNeg) (xs (x3 + (3 : Int32)).toNatClampNeg) f25 l25_31 l25_32 f26 h7) (cwV 3 C0.1.2.2.2.2 gL_law_X7_bomb rfl rfl rfl hdX7_bomb ⟨Nat.le_of_ble_eq_true rfl, Nat.le_of_ble_eq_true rfl⟩) [25, 26] [0, 1, 2, 3, 4, 5, 6, 7, 8, 9, 10, 11, 12, 13, 14, 15, 16, 17, 18, 19, 20, 21, 22, 23, 24, 27, 28, 29, 30, 31, 32, 33, 34, 35, 36, 37, 38] [0, 1, 2, 3, 4, 5, 6, 7, 8, 9, 10, 11, 12, 13, 14, 15, 16, 17, 18, 19, 20, 21, 22, 23, 24, 37, 38, 25, 26, 27, 28, 29, 30, 31, 32, 33, 34, 35, 36] rfl rfl rfl rfl (by decide) rfl rfl rfl rfl rfl rfl (Nat.le_of_ble_eq_true rfl) dL_law_323 ⟨Nat.le_refl _, Nat.le_refl _⟩ ?_
      refine a_icmp_eq C0 529 dL_law_326 (by decide) (fun _ => ?_) (fun c9 => absurd rfl c9)
      exact hback f1' f2' f3 f4 f5 f6 f7 f8 f9 f10 f11 f12 f13 f14 f15 f16 f17 f18 f19 f20 f21 f22 l22_2 f23 f24 f25' l25_31 l25_32 f26' f27 f28 f29 f30 f31 f32 f33 f34 f35 f36 f37 f38 hI2
    by_cases c7 : (xs x3.toNatClampNeg &&& 15) = (7 : Int32)
    · refine a_tableIn C0 331 dL_law_32 (by rw [c7]; decide) (by rw [c7]; decide) (by rw [c7]; rfl) (by decide) ?_
      obtain ⟨r, f1', f2', f3', f4', f8', f9', f10', f17', f18', f19', f20', f21', f25', f26', f27', f28', f29', f30', f31', f32', f33', f34', f35', f36', h6, h7, hI2⟩ := st_plant f1 f2 f3 f4 f5 f6 f7 f8 f9 f10 f17 f18 f19 f20 f21 f23 f25 l25_31 l25_32 f26 f27 f28 f29 f30 f31 f32 f33 f34 f35 f36 f37 f38 (xs (x3 + (1 : Int32)).toNatClampNeg) hI
      refine a_aload_n C0 dL_law_331 rfl 1 rfl ?_
      refine a_aload_n C0 dL_law_332 rfl 0 rfl ?_
      refine a_iload_n C0 dL_law_333 rfl 3 rfl ?_
      refine a_iconst C0 (1 : Int32) dL_law_334 (by decide) ?_
      refine a_iadd C0 dL_law_335 ?_
      refine a_sld C0 hX hbl hbA hin1 dL_law_336 ?_
      refine a_callVi C0 (wdL_0 cA q0 q1 q2 q3 q4 q5 q6 q7 q8 q9 q10 q11 q12 q13 q14 q15 q16 q17 q18 q19 q20 q21 q22 q23 q24 q25 q26 q27 q28 q29 q30 q31 q32 q33 q34 q35 q36 q37 q38 f1' f2' f3' f4' f5 f6 f7 f8' f9' f10' f11 f12 f13 f14 f15 f16 f17' f18' f19' f20' f21' f22 l22_2 f23 f24 f25 l25_31 l25_32 f26 f27 f28 f29 f30 f31 f32 f33 f34 f35 f36 f37 f38) (As := [.int (xs (x3 + (1 : Int32)).toNatClampNeg)]) (rest := []) (ctX6_plant l D cA q0 q1 q2 q3 q4 q5 q8 q9 q10 q11 q16 q17 q18 q19 q20 q21 q22 N (xs (x3 + (1 : Int32)).toNatClampNeg) f1 f2 f3 f4 f8 f9 f10 f17 f18 f19 f20 f21 h6) (cwV 1 C0.1.2.2.2.2 gL_law_X6_plant rfl rfl rfl hdX6_plant ⟨Nat.le_of_ble_eq_true rfl, Nat.le_of_ble_eq_true rfl⟩) [0, 1, 2, 3, 4, 8, 9, 10, 17, 18, 19, 20, 21] [5, 6, 7, 11, 12, 13, 14, 15, 16, 22, 23, 24, 25, 26, 27, 28, 29, 30, 31, 32, 33, 34, 35, 36, 37, 38] [26, 27, 28, 29, 30, 0, 1, 2, 31, 32, 33, 3, 4, 5, 6, 7, 8, 34, 35, 36, 37, 38, 9, 10, 11, 12, 13, 14, 15, 16, 17, 18, 19, 20, 21, 22, 23, 24, 25] rfl rfl rfl rfl (by decide) rfl rfl rfl rfl rfl rfl (Nat.le_of_ble_eq_true rfl) dL_law_337 ⟨Nat.le_refl _, Nat.le_refl _⟩ ?_
      refine a_aload_n C0 dL_law_340 rfl 2 rfl ?_
      refine a_aload_n C0 dL_law_341 rfl 0 rfl ?_
      refine a_iload_n C0 dL_law_342 rfl 3 rfl ?_
      refine a_iconst C0 (1 : Int32) dL_law_343 (by decide) ?_
      refine a_iadd C0 dL_law_344 ?_
      refine a_sld C0 hX hbl hbA hin1 dL_law_345 ?_
      refine a_callVi C0 (wdL_0 cA q0 q1 q2 q3 q4 q5 q6 q7 q8 q9 q10 q11 q12 q13 q14 q15 q16 q17 q18 q19 q20 q21 q22 q23 q24 q25 q26 q27 q28 q29 q30 q31 q32 q33 q34 q35 q36 q37 q38 f1' f2' f3' f4' f5 f6 f7 f8' f9' f10' f11 f12 f13 f14 f15 f16 f17' f18' f19' f20' f21' f22 l22_2 f23 f24 f25' l25_31 l25_32 f26' f27' f28' f29' f30' f31' f32' f33' f34' f35' f36' f37 f38) (As := [.int (xs (x3 + (1 : Int32)).toNatClampNeg)]) (rest := [.int r]) (ctX7_plant l D cA q25 q26 q27 q28 q29 q30 q31 q32 q33 q34 q35 q36 q37 q38 N (xs (x3 + (1 : Int32)).toNatClampNeg) f25 l25_31 l25_32 f26 f27 f28 f29 f30 f31 f32 f33 f34 f35 f36 h7) (cwV 1 C0.1.2.2.2.2 gL_law_X7_plant rfl rfl rfl hdX7_plant ⟨Nat.le_of_ble_eq_true rfl, Nat.le_of_ble_eq_true rfl⟩) [25, 26, 27, 28, 29, 30, 31, 32, 33, 34, 35, 36] [0, 1, 2, 3, 4, 5, 6, 7, 8, 9, 10, 11, 12, 13, 14, 15, 16, 17, 18, 19, 20, 21, 22, 23, 24, 37, 38] [0, 1, 2, 3, 4, 5, 6, 7, 8, 9, 10, 11, 12, 13, 14, 15, 16, 17, 18, 19, 20, 21, 22, 23, 24, 27, 28, 29, 30, 31, 32, 33, 34, 35, 36, 37, 38, 25, 26] rfl rfl rfl rfl (by decide) rfl rfl rfl rfl rfl rfl (Nat.le_of_ble_eq_true rfl) dL_law_346 ⟨Nat.le_refl _, Nat.le_refl _⟩ ?_
      refine a_icmp_eq C0 529 dL_law_349 (by decide) (fun _ => ?_) (fun c9 => absurd rfl c9)
      exact hback f1' f2' f3' f4' f5 f6 f7 f8' f9' f10' f11 f12 f13 f14 f15 f16 f17' f18' f19' f20' f21' f22 l22_2 f23 f24 f25' l25_31 l25_32 f26' f27' f28' f29' f30' f31' f32' f33' f34' f35' f36' f37 f38 hI2
    by_cases c8 : (xs x3.toNatClampNeg &&& 15) = (8 : Int32)
    · refine a_tableIn C0 354 dL_law_32 (by rw [c8]; decide) (by rw [c8]; decide) (by rw [c8]; rfl) (by decide) ?_
      obtain ⟨r, f5', f6', f7', f11', f12', f13', f14', f15', f25', f27', f28', f29', f30', f31', f32', f33', f34', f35', f36', f37', f38', h6, h7, hI2⟩ := st_open f1 f2 f5 f6 f7 f9 f11 f12 f13 f14 f15 f23 f25 l25_31 l25_32 f26 f27 f28 f29 f30 f31 f32 f33 f34 f35 f36 f37 f38 (xs (x3 + (1 : Int32)).toNatClampNeg) (xs (x3 + (2 : Int32)).toNatClampNeg) (xs (x3 + (3 : Int32)).toNatClampNeg) hI
      refine a_aload_n C0 dL_law_354 rfl 1 rfl ?_
      refine a_aload_n C0 dL_law_355 rfl 0 rfl ?_
      refine a_iload_n C0 dL_law_356 rfl 3 rfl ?_
      refine a_iconst C0 (1 : Int32) dL_law_357 (by decide) ?_
      refine a_iadd C0 dL_law_358 ?_
      refine a_sld C0 hX hbl hbA hin1 dL_law_359 ?_
      refine a_aload_n C0 dL_law_360 rfl 0 rfl ?_
      refine a_iload_n C0 dL_law_361 rfl 3 rfl ?_
      refine a_iconst C0 (2 : Int32) dL_law_362 (by decide) ?_
      refine a_iadd C0 dL_law_363 ?_
      refine a_sld C0 hX hbl hbA hin2 dL_law_364 ?_
      refine a_aload_n C0 dL_law_365 rfl 0 rfl ?_
      refine a_iload_n C0 dL_law_366 rfl 3 rfl ?_
      refine a_iconst C0 (3 : Int32) dL_law_367 (by decide) ?_
      refine a_iadd C0 dL_law_368 ?_
      refine a_sld C0 hX hbl hbA hin3 dL_law_369 ?_
      refine a_callVi C0 (wdL_0 cA q0 q1 q2 q3 q4 q5 q6 q7 q8 q9 q10 q11 q12 q13 q14 q15 q16 q17 q18 q19 q20 q21 q22 q23 q24 q25 q26 q27 q28 q29 q30 q31 q32 q33 q34 q35 q36 q37 q38 f1 f2 f3 f4 f5' f6' f7' f8 f9 f10 f11' f12' f13' f14' f15' f16 f17 f18 f19 f20 f21 f22 l22_2 f23 f24 f25 l25_31 l25_32 f26 f27 f28 f29 f30 f31 f32 f33 f34 f35 f36 f37 f38) (As := [.int (xs (x3 + (1 : Int32)).toNatClampNeg), .int (xs (x3 + (2 : Int32)).toNatClampNeg), .int (xs (x3 + (3 : Int32)).toNatClampNeg)]) (rest := []) (ctX6_open l D cA q0 q1 q2 q3 q5 q6 q7 q8 q11 q12 q13 q14 q15 q16 q17 q22 N (xs (x3 + (1 : Int32)).toNatClampNeg) (xs (x3 + (2 : Int32)).toNatClampNeg) (xs (x3 + (3 : Int32)).toNatClampNeg) f1 f2 f5 f6 f7 f11 f12 f13 f14 f15 h6) (cwV 3 C0.1.2.2.2.2 gL_law_X6_open rfl rfl rfl hdX6_open ⟨Nat.le_of_ble_eq_true rfl, Nat.le_of_ble_eq_true rfl⟩) [0, 1, 2, 5, 6, 7, 11, 12, 13, 14, 15] [3, 4, 8, 9, 10, 16, 17, 18, 19, 20, 21, 22, 23, 24, 25, 26, 27, 28, 29, 30, 31, 32, 33, 34, 35, 36, 37, 38] [28, 29, 30, 0, 1, 31, 32, 33, 2, 3, 4, 34, 35, 36, 37, 38, 5, 6, 7, 8, 9, 10, 11, 12, 13, 14, 15, 16, 17, 18, 19, 20, 21, 22, 23, 24, 25, 26, 27] rfl rfl rfl rfl (by decide) rfl rfl rfl rfl rfl rfl (Nat.le_of_ble_eq_true rfl) dL_law_370 ⟨Nat.le_refl _, Nat.le_refl _⟩ ?_
      refine a_aload_n C0 dL_law_373 rfl 2 rfl ?_
      refine a_aload_n C0 dL_law_374 rfl 0 rfl ?_
      refine a_iload_n C0 dL_law_375 rfl 3 rfl ?_
      refine a_iconst C0 (1 : Int32) dL_law_376 (by decide) ?_
      refine a_iadd C0 dL_law_377 ?_
      refine a_sld C0 hX hbl hbA hin1 dL_law_378 ?_
      refine a_aload_n C0 dL_law_379 rfl 0 rfl ?_
      refine a_iload_n C0 dL_law_380 rfl 3 rfl ?_
      refine a_iconst C0 (2 : Int32) dL_law_381 (by decide) ?_
      refine a_iadd C0 dL_law_382 ?_
      refine a_sld C0 hX hbl hbA hin2 dL_law_383 ?_
      refine a_aload_n C0 dL_law_384 rfl 0 rfl ?_
      refine a_iload_n C0 dL_law_385 rfl 3 rfl ?_
      refine a_iconst C0 (3 : Int32) dL_law_386 (by decide) ?_
      refine a_iadd C0 dL_law_387 ?_
      refine a_sld C0 hX hbl hbA hin3 dL_law_388 ?_
      refine a_callVi C0 (wdL_0 cA q0 q1 q2 q3 q4 q5 q6 q7 q8 q9 q10 q11 q12 q13 q14 q15 q16 q17 q18 q19 q20 q21 q22 q23 q24 q25 q26 q27 q28 q29 q30 q31 q32 q33 q34 q35 q36 q37 q38 f1 f2 f3 f4 f5' f6' f7' f8 f9 f10 f11' f12' f13' f14' f15' f16 f17 f18 f19 f20 f21 f22 l22_2 f23 f24 f25' l25_31 l25_32 f26 f27' f28' f29' f30' f31' f32' f33' f34' f35' f36' f37' f38') (As := [.int (xs (x3 + (1 : Int32)).toNatClampNeg), .int (xs (x3 + (2 : Int32)).toNatClampNeg), .int (xs (x3 + (3 : Int32)).toNatClampNeg)]) (rest := [.int r]) (ctX7_open l D cA q25 q26 q27 q28 q29 q30 q31 q32 q33 q34 q35 q36 q37 q38 N (xs (x3 + (1 : Int32)).toNatClampNeg) (xs (x3 + (2 : Int32)).toNatClampNeg) (xs (x3 + (3 : Int32)).toNatClampNeg) f25 l25_31 l25_32 f26 f27 f28 f29 f30 f31 f32 f33 f34 f35 f36 f37 f38 h7) (cwV 3 C0.1.2.2.2.2 gL_law_X7_open rfl rfl rfl hdX7_open ⟨Nat.le_of_ble_eq_true rfl, Nat.le_of_ble_eq_true rfl⟩) [25, 26, 27, 28, 29, 30, 31, 32, 33, 34, 35, 36, 37, 38] [0, 1, 2, 3, 4, 5, 6, 7, 8, 9, 10, 11, 12, 13, 14, 15, 16, 17, 18, 19, 20, 21, 22, 23, 24] [0, 1, 2, 3, 4, 5, 6, 7, 8, 9, 10, 11, 12, 13, 14, 15, 16, 17, 18, 19, 20, 21, 22, 23, 24, 25, 26, 27, 28, 29, 30, 31, 32, 33, 34, 35, 36, 37, 38] rfl rfl rfl rfl (by decide) rfl rfl rfl rfl rfl rfl (Nat.le_of_ble_eq_true rfl) dL_law_389 ⟨Nat.le_refl _, Nat.le_refl _⟩ ?_
      refine a_icmp_eq C0 529 dL_law_392 (by decide) (fun _ => ?_) (fun c9 => absurd rfl c9)
      exact hback f1 f2 f3 f4 f5' f6' f7' f8 f9 f10 f11' f12' f13' f14' f15' f16 f17 f18 f19 f20 f21 f22 l22_2 f23 f24 f25' l25_31 l25_32 f26 f27' f28' f29' f30' f31' f32' f33' f34' f35' f36' f37' f38' hI2
    by_cases c9 : (xs x3.toNatClampNeg &&& 15) = (9 : Int32)
    · refine a_tableIn C0 397 dL_law_32 (by rw [c9]; decide) (by rw [c9]; decide) (by rw [c9]; rfl) (by decide) ?_
      obtain ⟨r, f5', f6', f7', f16', f25', f27', f28', f29', f30', f31', f32', f33', f34', f35', f36', f37', f38', h6, h7, hI2⟩ := st_plain f1 f2 f5 f6 f7 f9 f16 f23 f25 l25_31 l25_32 f26 f27 f28 f29 f30 f31 f32 f33 f34 f35 f36 f37 f38 (xs (x3 + (1 : Int32)).toNatClampNeg) (xs (x3 + (2 : Int32)).toNatClampNeg) (xs (x3 + (3 : Int32)).toNatClampNeg) hI
      refine a_aload_n C0 dL_law_397 rfl 1 rfl ?_
      refine a_aload_n C0 dL_law_398 rfl 0 rfl ?_
      refine a_iload_n C0 dL_law_399 rfl 3 rfl ?_
      refine a_iconst C0 (1 : Int32) dL_law_400 (by decide) ?_
      refine a_iadd C0 dL_law_401 ?_
      refine a_sld C0 hX hbl hbA hin1 dL_law_402 ?_
      refine a_aload_n C0 dL_law_403 rfl 0 rfl ?_
      refine a_iload_n C0 dL_law_404 rfl 3 rfl ?_
      refine a_iconst C0 (2 : Int32) dL_law_405 (by decide) ?_
      refine a_iadd C0 dL_law_406 ?_
      refine a_sld C0 hX hbl hbA hin2 dL_law_407 ?_
      refine a_aload_n C0 dL_law_408 rfl 0 rfl ?_
      refine a_iload_n C0 dL_law_409 rfl 3 rfl ?_
      refine a_iconst C0 (3 : Int32) dL_law_410 (by decide) ?_
      refine a_iadd C0 dL_law_411 ?_
      refine a_sld C0 hX hbl hbA hin3 dL_law_412 ?_
      refine a_callVi C0 (wdL_0 cA q0 q1 q2 q3 q4 q5 q6 q7 q8 q9 q10 q11 q12 q13 q14 q15 q16 q17 q18 q19 q20 q21 q22 q23 q24 q25 q26 q27 q28 q29 q30 q31 q32 q33 q34 q35 q36 q37 q38 f1 f2 f3 f4 f5' f6' f7' f8 f9 f10 f11 f12 f13 f14 f15 f16' f17 f18 f19 f20 f21 f22 l22_2 f23 f24 f25 l25_31 l25_32 f26 f27 f28 f29 f30 f31 f32 f33 f34 f35 f36 f37 f38) (As := [.int (xs (x3 + (1 : Int32)).toNatClampNeg), .int (xs (x3 + (2 : Int32)).toNatClampNeg), .int (xs (x3 + (3 : Int32)).toNatClampNeg)]) (rest := []) (ctX6_plain l D cA q0 q1 q2 q3 q5 q6 q7 q8 q11 q16 q17 q22 N (xs (x3 + (1 : Int32)).toNatClampNeg) (xs (x3 + (2 : Int32)).toNatClampNeg) (xs (x3 + (3 : Int32)).toNatClampNeg) f1 f2 f5 f6 f7 f16 h6) (cwV 3 C0.1.2.2.2.2 gL_law_X6_plain rfl rfl rfl hdX6_plain ⟨Nat.le_of_ble_eq_true rfl, Nat.le_of_ble_eq_true rfl⟩) [0, 1, 2, 5, 6, 7, 16] [3, 4, 8, 9, 10, 11, 12, 13, 14, 15, 17, 18, 19, 20, 21, 22, 23, 24, 25, 26, 27, 28, 29, 30, 31, 32, 33, 34, 35, 36, 37, 38] [32, 33, 34, 0, 1, 35, 36, 37, 2, 3, 4, 5, 6, 7, 8, 9, 38, 10, 11, 12, 13, 14, 15, 16, 17, 18, 19, 20, 21, 22, 23, 24, 25, 26, 27, 28, 29, 30, 31] rfl rfl rfl rfl (by decide) rfl rfl rfl rfl rfl rfl (Nat.le_of_ble_eq_true rfl) dL_law_413 ⟨Nat.le_refl _, Nat.le_refl _⟩ ?_
      refine a_aload_n C0 dL_law_416 rfl 2 rfl ?_
      refine a_aload_n C0 dL_law_417 rfl 0 rfl ?_
      refine a_iload_n C0 dL_law_418 rfl 3 rfl ?_
      refine a_iconst C0 (1 : Int32) dL_law_419 (by decide) ?_
      refine a_iadd C0 dL_law_420 ?_
      refine a_sld C0 hX hbl hbA hin1 dL_law_421 ?_
      refine a_aload_n C0 dL_law_422 rfl 0 rfl ?_
      refine a_iload_n C0 dL_law_423 rfl 3 rfl ?_
      refine a_iconst C0 (2 : Int32) dL_law_424 (by decide) ?_
      refine a_iadd C0 dL_law_425 ?_
      refine a_sld C0 hX hbl hbA hin2 dL_law_426 ?_
      refine a_aload_n C0 dL_law_427 rfl 0 rfl ?_
      refine a_iload_n C0 dL_law_428 rfl 3 rfl ?_
      refine a_iconst C0 (3 : Int32) dL_law_429 (by decide) ?_
      refine a_iadd C0 dL_law_430 ?_
      refine a_sld C0 hX hbl hbA hin3 dL_law_431 ?_
      refine a_callVi C0 (wdL_0 cA q0 q1 q2 q3 q4 q5 q6 q7 q8 q9 q10 q11 q12 q13 q14 q15 q16 q17 q18 q19 q20 q21 q22 q23 q24 q25 q26 q27 q28 q29 q30 q31 q32 q33 q34 q35 q36 q37 q38 f1 f2 f3 f4 f5' f6' f7' f8 f9 f10 f11 f12 f13 f14 f15 f16' f17 f18 f19 f20 f21 f22 l22_2 f23 f24 f25' l25_31 l25_32 f26 f27' f28' f29' f30' f31' f32' f33' f34' f35' f36' f37' f38') (As := [.int (xs (x3 + (1 : Int32)).toNatClampNeg), .int (xs (x3 + (2 : Int32)).toNatClampNeg), .int (xs (x3 + (3 : Int32)).toNatClampNeg)]) (rest := [.int r]) (ctX7_plain l D cA q25 q26 q27 q28 q29 q30 q31 q32 q33 q34 q35 q36 q37 q38 N (xs (x3 + (1 : Int32)).toNatClampNeg) (xs (x3 + (2 : Int32)).toNatClampNeg) (xs (x3 + (3 : Int32)).toNatClampNeg) f25 l25_31 l25_32 f26 f27 f28 f29 f30 f31 f32 f33 f34 f35 f36 f37 f38 h7) (cwV 3 C0.1.2.2.2.2 gL_law_X7_plain rfl rfl rfl hdX7_plain ⟨Nat.le_of_ble_eq_true rfl, Nat.le_of_ble_eq_true rfl⟩) [25, 26, 27, 28, 29, 30, 31, 32, 33, 34, 35, 36, 37, 38] [0, 1, 2, 3, 4, 5, 6, 7, 8, 9, 10, 11, 12, 13, 14, 15, 16, 17, 18, 19, 20, 21, 22, 23, 24] [0, 1, 2, 3, 4, 5, 6, 7, 8, 9, 10, 11, 12, 13, 14, 15, 16, 17, 18, 19, 20, 21, 22, 23, 24, 25, 26, 27, 28, 29, 30, 31, 32, 33, 34, 35, 36, 37, 38] rfl rfl rfl rfl (by decide) rfl rfl rfl rfl rfl rfl (Nat.le_of_ble_eq_true rfl) dL_law_432 ⟨Nat.le_refl _, Nat.le_refl _⟩ ?_
      refine a_icmp_eq C0 529 dL_law_435 (by decide) (fun _ => ?_) (fun c9 => absurd rfl c9)
      exact hback f1 f2 f3 f4 f5' f6' f7' f8 f9 f10 f11 f12 f13 f14 f15 f16' f17 f18 f19 f20 f21 f22 l22_2 f23 f24 f25' l25_31 l25_32 f26 f27' f28' f29' f30' f31' f32' f33' f34' f35' f36' f37' f38' hI2
    by_cases c10 : (xs x3.toNatClampNeg &&& 15) = (10 : Int32)
    · refine a_tableIn C0 440 dL_law_32 (by rw [c10]; decide) (by rw [c10]; decide) (by rw [c10]; rfl) (by decide) ?_
      obtain ⟨r, h6, h7, hI2⟩ := st_told f1 f2 f5 f6 f7 f9 f23 f25 l25_31 l25_32 f26 f37 f38 (xs (x3 + (1 : Int32)).toNatClampNeg) hI
      refine a_aload_n C0 dL_law_440 rfl 1 rfl ?_
      refine a_aload_n C0 dL_law_441 rfl 0 rfl ?_
      refine a_iload_n C0 dL_law_442 rfl 3 rfl ?_
      refine a_iconst C0 (1 : Int32) dL_law_443 (by decide) ?_
      refine a_iadd C0 dL_law_444 ?_
      refine a_sld C0 hX hbl hbA hin1 dL_law_445 ?_
      refine a_callVi C0 (wdL_0 cA q0 q1 q2 q3 q4 q5 q6 q7 q8 q9 q10 q11 q12 q13 q14 q15 q16 q17 q18 q19 q20 q21 q22 q23 q24 q25 q26 q27 q28 q29 q30 q31 q32 q33 q34 q35 q36 q37 q38 f1 f2 f3 f4 f5 f6 f7 f8 f9 f10 f11 f12 f13 f14 f15 f16 f17 f18 f19 f20 f21 f22 l22_2 f23 f24 f25 l25_31 l25_32 f26 f27 f28 f29 f30 f31 f32 f33 f34 f35 f36 f37 f38) (As := [.int (xs (x3 + (1 : Int32)).toNatClampNeg)]) (rest := []) (ctX6_told l D cA q0 q1 q3 q5 q6 q8 q11 q16 q17 q22 (xs (x3 + (1 : Int32)).toNatClampNeg) f5 h6) (cwV 1 C0.1.2.2.2.2 gL_law_X6_told rfl rfl rfl hdX6_told ⟨Nat.le_of_ble_eq_true rfl, Nat.le_of_ble_eq_true rfl⟩) [0, 5] [1, 2, 3, 4, 6, 7, 8, 9, 10, 11, 12, 13, 14, 15, 16, 17, 18, 19, 20, 21, 22, 23, 24, 25, 26, 27, 28, 29, 30, 31, 32, 33, 34, 35, 36, 37, 38] [37, 0, 1, 2, 3, 38, 4, 5, 6, 7, 8, 9, 10, 11, 12, 13, 14, 15, 16, 17, 18, 19, 20, 21, 22, 23, 24, 25, 26, 27, 28, 29, 30, 31, 32, 33, 34, 35, 36] rfl rfl rfl rfl (by decide) rfl rfl rfl rfl rfl rfl (Nat.le_of_ble_eq_true rfl) dL_law_446 ⟨Nat.le_refl _, Nat.le_refl _⟩ ?_
      refine a_aload_n C0 dL_law_449 rfl 2 rfl ?_
      refine a_aload_n C0 dL_law_450 rfl 0 rfl ?_
      refine a_iload_n C0 dL_law_451 rfl 3 rfl ?_
      refine a_iconst C0 (1 : Int32) dL_law_452 (by decide) ?_
      refine a_iadd C0 dL_law_453 ?_
      refine a_sld C0 hX hbl hbA hin1 dL_law_454 ?_
      refine a_callVi C0 (wdL_0 cA q0 q1 q2 q3 q4 q5 q6 q7 q8 q9 q10 q11 q12 q13 q14 q15 q16 q17 q18 q19 q20 q21 q22 q23 q24 q25 q26 q27 q28 q29 q30 q31 q32 q33 q34 q35 q36 q37 q38 f1 f2 f3 f4 f5 f6 f7 f8 f9 f10 f11 f12 f13 f14 f15 f16 f17 f18 f19 f20 f21 f22 l22_2 f23 f24 f25 l25_31 l25_32 f26 f27 f28 f29 f30 f31 f32 f33 f34 f35 f36 f37 f38) (As := [.int (xs (x3 + (1 : Int32)).toNatClampNeg)]) (rest := [.int r]) (ctX7_told l D cA q25 q26 q27 q28 q29 q30 q31 q32 q33 q34 q35 q36 q37 q38 (xs (x3 + (1 : Int32)).toNatClampNeg) f25 l25_31 l25_32 f37 h7) (cwV 1 C0.1.2.2.2.2 gL_law_X7_told rfl rfl rfl hdX7_told ⟨Nat.le_of_ble_eq_true rfl, Nat.le_of_ble_eq_true rfl⟩) [25, 37] [0, 1, 2, 3, 4, 5, 6, 7, 8, 9, 10, 11, 12, 13, 14, 15, 16, 17, 18, 19, 20, 21, 22, 23, 24, 26, 27, 28, 29, 30, 31, 32, 33, 34, 35, 36, 38] [0, 1, 2, 3, 4, 5, 6, 7, 8, 9, 10, 11, 12, 13, 14, 15, 16, 17, 18, 19, 20, 21, 22, 23, 24, 37, 25, 26, 27, 28, 29, 30, 31, 32, 33, 34, 35, 38, 36] rfl rfl rfl rfl (by decide) rfl rfl rfl rfl rfl rfl (Nat.le_of_ble_eq_true rfl) dL_law_455 ⟨Nat.le_refl _, Nat.le_refl _⟩ ?_
      refine a_icmp_eq C0 529 dL_law_458 (by decide) (fun _ => ?_) (fun c9 => absurd rfl c9)
      exact hback f1 f2 f3 f4 f5 f6 f7 f8 f9 f10 f11 f12 f13 f14 f15 f16 f17 f18 f19 f20 f21 f22 l22_2 f23 f24 f25 l25_31 l25_32 f26 f27 f28 f29 f30 f31 f32 f33 f34 f35 f36 f37 f38 hI2
    by_cases c11 : (xs x3.toNatClampNeg &&& 15) = (11 : Int32)
    · refine a_tableIn C0 463 dL_law_32 (by rw [c11]; decide) (by rw [c11]; decide) (by rw [c11]; rfl) (by decide) ?_
      obtain ⟨r, h6, h7, hI2⟩ := st_given f1 f2 f5 f6 f7 f9 f23 f25 l25_31 l25_32 f26 f37 f38 (xs (x3 + (1 : Int32)).toNatClampNeg) hI
      refine a_aload_n C0 dL_law_463 rfl 1 rfl ?_
      refine a_aload_n C0 dL_law_464 rfl 0 rfl ?_
      refine a_iload_n C0 dL_law_465 rfl 3 rfl ?_
      refine a_iconst C0 (1 : Int32) dL_law_466 (by decide) ?_
      refine a_iadd C0 dL_law_467 ?_
      refine a_sld C0 hX hbl hbA hin1 dL_law_468 ?_
      refine a_callVi C0 (wdL_0 cA q0 q1 q2 q3 q4 q5 q6 q7 q8 q9 q10 q11 q12 q13 q14 q15 q16 q17 q18 q19 q20 q21 q22 q23 q24 q25 q26 q27 q28 q29 q30 q31 q32 q33 q34 q35 q36 q37 q38 f1 f2 f3 f4 f5 f6 f7 f8 f9 f10 f11 f12 f13 f14 f15 f16 f17 f18 f19 f20 f21 f22 l22_2 f23 f24 f25 l25_31 l25_32 f26 f27 f28 f29 f30 f31 f32 f33 f34 f35 f36 f37 f38) (As := [.int (xs (x3 + (1 : Int32)).toNatClampNeg)]) (rest := []) (ctX6_given l D cA q0 q1 q3 q5 q6 q7 q8 q11 q16 q17 q22 (xs (x3 + (1 : Int32)).toNatClampNeg) f5 f6 f7 h6) (cwV 1 C0.1.2.2.2.2 gL_law_X6_given rfl rfl rfl hdX6_given ⟨Nat.le_of_ble_eq_true rfl, Nat.le_of_ble_eq_true rfl⟩) [0, 5, 6, 7] [1, 2, 3, 4, 8, 9, 10, 11, 12, 13, 14, 15, 16, 17, 18, 19, 20, 21, 22, 23, 24, 25, 26, 27, 28, 29, 30, 31, 32, 33, 34, 35, 36, 37, 38] [35, 0, 1, 2, 3, 36, 37, 38, 4, 5, 6, 7, 8, 9, 10, 11, 12, 13, 14, 15, 16, 17, 18, 19, 20, 21, 22, 23, 24, 25, 26, 27, 28, 29, 30, 31, 32, 33, 34] rfl rfl rfl rfl (by decide) rfl rfl rfl rfl rfl rfl (Nat.le_of_ble_eq_true rfl) dL_law_469 ⟨Nat.le_refl _, Nat.le_refl _⟩ ?_
      refine a_aload_n C0 dL_law_472 rfl 2 rfl ?_
      refine a_aload_n C0 dL_law_473 rfl 0 rfl ?_
      refine a_iload_n C0 dL_law_474 rfl 3 rfl ?_
      refine a_iconst C0 (1 : Int32) dL_law_475 (by decide) ?_
      refine a_iadd C0 dL_law_476 ?_
      refine a_sld C0 hX hbl hbA hin1 dL_law_477 ?_
      refine a_callVi C0 (wdL_0 cA q0 q1 q2 q3 q4 q5 q6 q7 q8 q9 q10 q11 q12 q13 q14 q15 q16 q17 q18 q19 q20 q21 q22 q23 q24 q25 q26 q27 q28 q29 q30 q31 q32 q33 q34 q35 q36 q37 q38 f1 f2 f3 f4 f5 f6 f7 f8 f9 f10 f11 f12 f13 f14 f15 f16 f17 f18 f19 f20 f21 f22 l22_2 f23 f24 f25 l25_31 l25_32 f26 f27 f28 f29 f30 f31 f32 f33 f34 f35 f36 f37 f38) (As := [.int (xs (x3 + (1 : Int32)).toNatClampNeg)]) (rest := [.int r]) (ctX7_given l D cA q25 q26 q27 q28 q29 q30 q31 q32 q33 q34 q35 q36 q37 q38 (xs (x3 + (1 : Int32)).toNatClampNeg) f25 l25_31 l25_32 f37 f38 h7) (cwV 1 C0.1.2.2.2.2 gL_law_X7_given rfl rfl rfl hdX7_given ⟨Nat.le_of_ble_eq_true rfl, Nat.le_of_ble_eq_true rfl⟩) [25, 37, 38] [0, 1, 2, 3, 4, 5, 6, 7, 8, 9, 10, 11, 12, 13, 14, 15, 16, 17, 18, 19, 20, 21, 22, 23, 24, 26, 27, 28, 29, 30, 31, 32, 33, 34, 35, 36] [0, 1, 2, 3, 4, 5, 6, 7, 8, 9, 10, 11, 12, 13, 14, 15, 16, 17, 18, 19, 20, 21, 22, 23, 24, 36, 25, 26, 27, 28, 29, 30, 31, 32, 33, 34, 35, 37, 38] rfl rfl rfl rfl (by decide) rfl rfl rfl rfl rfl rfl (Nat.le_of_ble_eq_true rfl) dL_law_478 ⟨Nat.le_refl _, Nat.le_refl _⟩ ?_
      refine a_icmp_eq C0 529 dL_law_481 (by decide) (fun _ => ?_) (fun c9 => absurd rfl c9)
      exact hback f1 f2 f3 f4 f5 f6 f7 f8 f9 f10 f11 f12 f13 f14 f15 f16 f17 f18 f19 f20 f21 f22 l22_2 f23 f24 f25 l25_31 l25_32 f26 f27 f28 f29 f30 f31 f32 f33 f34 f35 f36 f37 f38 hI2
    by_cases c12 : (xs x3.toNatClampNeg &&& 15) = (12 : Int32)
    · refine a_tableIn C0 486 dL_law_32 (by rw [c12]; decide) (by rw [c12]; decide) (by rw [c12]; rfl) (by decide) ?_
      obtain ⟨r, f1', f2', f3', f4', f8', f9', f10', f17', f18', f19', f20', f21', f25', f26', f27', f28', f29', f30', f31', f32', f33', f34', f35', f36', h6, h7, hI2⟩ := st_shorter f1 f2 f3 f4 f5 f6 f7 f8 f9 f10 f17 f18 f19 f20 f21 f23 f25 l25_31 l25_32 f26 f27 f28 f29 f30 f31 f32 f33 f34 f35 f36 f37 f38 (xs (x3 + (1 : Int32)).toNatClampNeg) (xs (x3 + (2 : Int32)).toNatClampNeg) (xs (x3 + (3 : Int32)).toNatClampNeg) hI
      refine a_aload_n C0 dL_law_486 rfl 1 rfl ?_
      refine a_aload_n C0 dL_law_487 rfl 0 rfl ?_
      refine a_iload_n C0 dL_law_488 rfl 3 rfl ?_
      refine a_iconst C0 (1 : Int32) dL_law_489 (by decide) ?_
      refine a_iadd C0 dL_law_490 ?_
      refine a_sld C0 hX hbl hbA hin1 dL_law_491 ?_
      refine a_aload_n C0 dL_law_492 rfl 0 rfl ?_
      refine a_iload_n C0 dL_law_493 rfl 3 rfl ?_
      refine a_iconst C0 (2 : Int32) dL_law_494 (by decide) ?_
      refine a_iadd C0 dL_law_495 ?_
      refine a_sld C0 hX hbl hbA hin2 dL_law_496 ?_
      refine a_aload_n C0 dL_law_497 rfl 0 rfl ?_
      refine a_iload_n C0 dL_law_498 rfl 3 rfl ?_
      refine a_iconst C0 (3 : Int32) dL_law_499 (by decide) ?_
      refine a_iadd C0 dL_law_500 ?_
      refine a_sld C0 hX hbl hbA hin3 dL_law_501 ?_
      refine a_callVi C0 (wdL_0 cA q0 q1 q2 q3 q4 q5 q6 q7 q8 q9 q10 q11 q12 q13 q14 q15 q16 q17 q18 q19 q20 q21 q22 q23 q24 q25 q26 q27 q28 q29 q30 q31 q32 q33 q34 q35 q36 q37 q38 f1' f2' f3' f4' f5 f6 f7 f8' f9' f10' f11 f12 f13 f14 f15 f16 f17' f18' f19' f20' f21' f22 l22_2 f23 f24 f25 l25_31 l25_32 f26 f27 f28 f29 f30 f31 f32 f33 f34 f35 f36 f37 f38) (As := [.int (xs (x3 + (1 : Int32)).toNatClampNeg), .int (xs (x3 + (2 : Int32)).toNatClampNeg), .int (xs (x3 + (3 : Int32)).toNatClampNeg)]) (rest := []) (ctX6_shorter l D cA q0 q1 q2 q3 q4 q5 q8 q9 q10 q11 q16 q17 q18 q19 q20 q21 q22 N (xs (x3 + (1 : Int32)).toNatClampNeg) (xs (x3 + (2 : Int32)).toNatClampNeg) (xs (x3 + (3 : Int32)).toNatClampNeg) f1 f2 f3 f4 f8 f9 f10 f17 f18 f19 f20 f21 h6) (cwV 3 C0.1.2.2.2.2 gL_law_X6_shorter rfl rfl rfl hdX6_shorter ⟨Nat.le_of_ble_eq_true rfl, Nat.le_of_ble_eq_true rfl⟩) [0, 1, 2, 3, 4, 8, 9, 10, 17, 18, 19, 20, 21] [5, 6, 7, 11, 12, 13, 14, 15, 16, 22, 23, 24, 25, 26, 27, 28, 29, 30, 31, 32, 33, 34, 35, 36, 37, 38] [26, 27, 28, 29, 30, 0, 1, 2, 31, 32, 33, 3, 4, 5, 6, 7, 8, 34, 35, 36, 37, 38, 9, 10, 11, 12, 13, 14, 15, 16, 17, 18, 19, 20, 21, 22, 23, 24, 25] rfl rfl rfl rfl (by decide) rfl rfl rfl rfl rfl rfl (Nat.le_of_ble_eq_true rfl) dL_law_502 ⟨Nat.le_refl _, Nat.le_refl _⟩ ?_
      refine a_aload_n C0 dL_law_505 rfl 2 rfl ?_
      refine a_aload_n C0 dL_law_506 rfl 0 rfl ?_
      refine a_iload_n C0 dL_law_507 rfl 3 rfl ?_
      refine a_iconst C0 (1 : Int32) dL_law_508 (by decide) ?_
      refine a_iadd C0 dL_law_509 ?_
      refine a_sld C0 hX hbl hbA hin1 dL_law_510 ?_
      refine a_aload_n C0 dL_law_511 rfl 0 rfl ?_
      refine a_iload_n C0 dL_law_512 rfl 3 rfl ?_
      refine a_iconst C0 (2 : Int32) dL_law_513 (by decide) ?_
      refine a_iadd C0 dL_law_514 ?_
      refine a_sld C0 hX hbl hbA hin2 dL_law_515 ?_
      refine a_aload_n C0 dL_law_516 rfl 0 rfl ?_
      refine a_iload_n C0 dL_law_517 rfl 3 rfl ?_
      refine a_iconst C0 (3 : Int32) dL_law_518 (by decide) ?_
      refine a_iadd C0 dL_law_519 ?_
      refine a_sld C0 hX hbl hbA hin3 dL_law_520 ?_
      refine a_callVi C0 (wdL_0 cA q0 q1 q2 q3 q4 q5 q6 q7 q8 q9 q10 q11 q12 q13 q14 q15 q16 q17 q18 q19 q20 q21 q22 q23 q24 q25 q26 q27 q28 q29 q30 q31 q32 q33 q34 q35 q36 q37 q38 f1' f2' f3' f4' f5 f6 f7 f8' f9' f10' f11 f12 f13 f14 f15 f16 f17' f18' f19' f20' f21' f22 l22_2 f23 f24 f25' l25_31 l25_32 f26' f27' f28' f29' f30' f31' f32' f33' f34' f35' f36' f37 f38) (As := [.int (xs (x3 + (1 : Int32)).toNatClampNeg), .int (xs (x3 + (2 : Int32)).toNatClampNeg), .int (xs (x3 + (3 : Int32)).toNatClampNeg)]) (rest := [.int r]) (ctX7_shorter l D cA q25 q26 q27 q28 q29 q30 q31 q32 q33 q34 q35 q36 q37 q38 N (xs (x3 + (1 : Int32)).toNatClampNeg) (xs (x3 + (2 : Int32)).toNatClampNeg) (xs (x3 + (3 : Int32)).toNatClampNeg) f25 l25_31 l25_32 f26 f27 f28 f29 f30 f31 f32 f33 f34 f35 f36 h7) (cwV 3 C0.1.2.2.2.2 gL_law_X7_shorter rfl rfl rfl hdX7_shorter ⟨Nat.le_of_ble_eq_true rfl, Nat.le_of_ble_eq_true rfl⟩) [25, 26, 27, 28, 29, 30, 31, 32, 33, 34, 35, 36] [0, 1, 2, 3, 4, 5, 6, 7, 8, 9, 10, 11, 12, 13, 14, 15, 16, 17, 18, 19, 20, 21, 22, 23, 24, 37, 38] [0, 1, 2, 3, 4, 5, 6, 7, 8, 9, 10, 11, 12, 13, 14, 15, 16, 17, 18, 19, 20, 21, 22, 23, 24, 27, 28, 29, 30, 31, 32, 33, 34, 35, 36, 37, 38, 25, 26] rfl rfl rfl rfl (by decide) rfl rfl rfl rfl rfl rfl (Nat.le_of_ble_eq_true rfl) dL_law_521 ⟨Nat.le_refl _, Nat.le_refl _⟩ ?_
      refine a_icmp_eq C0 529 dL_law_524 (by decide) (fun _ => ?_) (fun c9 => absurd rfl c9)
      exact hback f1' f2' f3' f4' f5 f6 f7 f8' f9' f10' f11 f12 f13 f14 f15 f16 f17' f18' f19' f20' f21' f22 l22_2 f23 f24 f25' l25_31 l25_32 f26' f27' f28' f29' f30' f31' f32' f33' f34' f35' f36' f37 f38 hI2
    have hsw : (xs x3.toNatClampNeg &&& 15).toInt < 0 ∨ 12 < (xs x3.toNatClampNeg &&& 15).toInt := by
      have := sw_ne c0 (k := 0) (by decide)
      have := sw_ne c1 (k := 1) (by decide)
      have := sw_ne c2 (k := 2) (by decide)
      have := sw_ne c3 (k := 3) (by decide)
      have := sw_ne c4 (k := 4) (by decide)
      have := sw_ne c5 (k := 5) (by decide)
      have := sw_ne c6 (k := 6) (by decide)
      have := sw_ne c7 (k := 7) (by decide)
      have := sw_ne c8 (k := 8) (by decide)
      have := sw_ne c9 (k := 9) (by decide)
      have := sw_ne c10 (k := 10) (by decide)
      have := sw_ne c11 (k := 11) (by decide)
      have := sw_ne c12 (k := 12) (by decide)
      omega
    refine a_tableOut C0 529 dL_law_32 hsw (by decide) ?_
    exact hback f1 f2 f3 f4 f5 f6 f7 f8 f9 f10 f11 f12 f13 f14 f15 f16 f17 f18 f19 f20 f21 f22 l22_2 f23 f24 f25 l25_31 l25_32 f26 f27 f28 f29 f30 f31 f32 f33 f34 f35 f36 f37 f38 hI
