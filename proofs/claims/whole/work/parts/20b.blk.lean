set_option maxRecDepth 100000 in
/-- EiderClimate$Tape.take -/
theorem e_55 (d : Nat) (x1 : Int) (σ : mM) : mcall (d + 1) 55 [(26, 24), (0, x1)] σ =
  bLt (σ 24 1) 120 (bIn (σ 24 1) 120 (bIn 1 2 (some (1, mset (mset σ 25 (σ 24 1).toNat x1) 24 1 (w32 (((mset σ 25 (σ 24 1).toNat x1) 24 1) + 1)))))) (bIn 0 2 (some (0, σ))) := (mcall_blk d 55 [] 999 _ σ rfl).trans rfl
set_option maxRecDepth 100000 in
/-- EiderClimate$Tape.readInto -/
theorem e_56 (d : Nat) (x1 : Nat) (σ : mM) : mcall (d + 1) 56 [(26, 24), (22, (x1 : Int))] σ =
  bLt ((mset σ 24 3 ((x1 : Int))) 24 3) 0 none (bK ((mcall d) 22 [(22, (mset σ 24 3 ((x1 : Int))) 24 3)] (mset σ 24 3 ((x1 : Int)))) (fun _ s2 => mgo (mcall d) (mX 56 σ) 56 19 [(26, 24), (22, (x1 : Int)), (0, 0)] [] (mset s2 24 2 0))) := (mcall_blk d 56 [19] 999 _ σ rfl).trans rfl
set_option maxRecDepth 100000 in
theorem b_56_19 (K : mK) (mx : Int × Int) (x1 : Nat) (v2 : Int) (σ : mM) : mgo K mx 56 19 [(26, 24), (22, (x1 : Int)), (0, v2)] [] σ =
  bLt (σ 24 1) v2 (some (σ 24 2, σ)) (bK (K 57 [(26, 24)] σ) (fun r1 s2 => bEq r1 0 (some (s2 24 2, s2)) (bLt (s2 24 2) (s2 24 1) (bK (K 63 [(26, 24)] s2) (fun r3 s4 => bEq r3 59 (mgo K mx 56 19 [(26, 24), (22, (x1 : Int)), (0, w32 (v2 + 1))] [] (mset s4 24 2 (w32 ((s4 24 2) + 1)))) (some (s4 24 2, s4)))) (some (-1, s2))))) := (mgo_blk K mx 56 [19] 999 _ _ _ σ).trans rfl
set_option maxRecDepth 100000 in
/-- EiderClimate$Tape.readLine -/
theorem e_57 (d : Nat)  (σ : mM) : mcall (d + 1) 57 [(26, 24)] σ =
  bK ((mcall d) 58 [(26, 24), (0, 0), (0, 0)] σ) (fun r1 s2 => bEq r1 0 (bIn 0 2 (some (0, s2))) (bK ((mcall d) 63 [(26, 24)] s2) (fun r3 s4 => bEq r3 63 (bLt (s4 24 3) 0 none (bK ((mcall d) 24 [(22, s4 24 3), (0, 1)] s4) (fun _ s6 => bEq 1 0 (bIn 1 2 (some (1, s6))) (bK ((mcall d) 58 [(26, 24), (0, 0), (0, 0)] (mset s6 24 2 (w32 ((s6 24 2) + 1)))) (fun r7 s8 => bEq r7 0 (bIn 0 2 (some (0, s8))) (bLt (s8 24 3) 0 none (bK ((mcall d) 24 [(22, s8 24 3), (0, 0)] s8) (fun _ s10 => bIn 1 2 (some (1, s10)))))))))) (bLt (s4 24 3) 0 none (bK ((mcall d) 24 [(22, s4 24 3), (0, 0)] s4) (fun _ s12 => bEq 0 0 (bIn 1 2 (some (1, s12))) (bK ((mcall d) 58 [(26, 24), (0, 0), (0, 0)] (mset s12 24 2 (w32 ((s12 24 2) + 1)))) (fun r13 s14 => bEq r13 0 (bIn 0 2 (some (0, s14))) (bLt (s14 24 3) 0 none (bK ((mcall d) 24 [(22, s14 24 3), (0, 0)] s14) (fun _ s16 => bIn 1 2 (some (1, s16))))))))))))) := (mcall_blk d 57 [] 999 _ σ rfl).trans rfl
set_option maxRecDepth 100000 in
/-- EiderClimate$Tape.readJoined -/
theorem e_58 (d : Nat) (x1 : Int) (x2 : Int) (σ : mM) : mcall (d + 1) 58 [(26, 24), (0, x1), (0, x2)] σ =
  bLt x1 5 (bK ((mcall d) 58 [(26, 24), (0, w32 (x1 + 1)), (0, x2)] σ) (fun r1 s2 => bEq r1 0 (bIn 0 2 (some (0, s2))) (bEq x1 2 (mgo (mcall d) (mX 58 σ) 58 41 [(26, 24), (0, x1), (0, x2), (0, 1), (0, 0), (2, 0)] [] s2) (mgo (mcall d) (mX 58 σ) 58 41 [(26, 24), (0, x1), (0, x2), (0, s2 24 1), (0, 0), (2, 0)] [] s2)))) (bK ((mcall d) 59 [(26, 24), (0, x2)] σ) (fun r3 s4 => bIn r3 2 (some (r3, s4)))) := (mcall_blk d 58 [41] 999 _ σ rfl).trans rfl
set_option maxRecDepth 100000 in
theorem b_58_41 (K : mK) (mx : Int × Int) (v1 : Int) (v2 : Int) (v3 : Int) (v4 : Int) (v5 : Int) (σ : mM) : mgo K mx 58 41 [(26, 24), (0, v1), (0, v2), (0, v3), (0, v4), (0, v5)] [] σ =
  bLt v4 v3 (bK (K 63 [(26, 24)] σ) (fun r1 s2 => bK (K 65 [(0, r1)] s2) (fun r3 s4 => bEq r3 v1 (bK (K 63 [(26, 24)] s4) (fun r5 s6 => bK (K 58 [(26, 24), (0, w32 (v1 + 1)), (0, v2)] (mset s6 24 2 (w32 ((s6 24 2) + 1)))) (fun r7 s8 => bEq r7 0 (bIn 0 2 (some (0, s8))) (bLt (s8 24 3) 0 none (bK (K 23 [(22, s8 24 3), (0, r5), (0, 0)] s8) (fun _ s10 => mgo K mx 58 41 [(26, 24), (0, v1), (0, v2), (0, v3), (0, w32 (v4 + 1)), (0, r5)] [] s10)))))) (bIn 1 2 (some (1, s4)))))) (bIn 1 2 (some (1, σ))) := (mgo_blk K mx 58 [41] 999 _ _ _ σ).trans rfl
set_option maxRecDepth 100000 in
theorem b_58_41a (K : mK) (mx : Int × Int) (v1 : Int) (v2 : Int) (v3 : Int) (v4 : Int) (σ : mM) : mgo K mx 58 41 [(26, 24), (0, v1), (0, v2), (0, v3), (0, v4), (2, 0)] [] σ =
  bLt v4 v3 (bK (K 63 [(26, 24)] σ) (fun r1 s2 => bK (K 65 [(0, r1)] s2) (fun r3 s4 => bEq r3 v1 (bK (K 63 [(26, 24)] s4) (fun r5 s6 => bK (K 58 [(26, 24), (0, w32 (v1 + 1)), (0, v2)] (mset s6 24 2 (w32 ((s6 24 2) + 1)))) (fun r7 s8 => bEq r7 0 (bIn 0 2 (some (0, s8))) (bLt (s8 24 3) 0 none (bK (K 23 [(22, s8 24 3), (0, r5), (0, 0)] s8) (fun _ s10 => mgo K mx 58 41 [(26, 24), (0, v1), (0, v2), (0, v3), (0, w32 (v4 + 1)), (0, r5)] [] s10)))))) (bIn 1 2 (some (1, s4)))))) (bIn 1 2 (some (1, σ))) := (mgo_blk K mx 58 [41] 999 _ _ _ σ).trans rfl
set_option maxRecDepth 100000 in
/-- EiderClimate$Tape.readOperand -/
theorem e_59 (d : Nat) (x1 : Int) (σ : mM) : mcall (d + 1) 59 [(26, 24), (0, x1)] σ =
  bK ((mcall d) 63 [(26, 24)] σ) (fun r1 s2 => bK ((mcall d) 64 [(0, r1)] s2) (fun r3 s4 => bEq r3 0 (bK ((mcall d) 28 [(0, r1)] s4) (fun r5 s6 => bLt r5 0 (bEq r1 33 (bLt x1 6 (bEq r1 40 (bK ((mcall d) 60 [(26, 24), (0, w32 (x1 + 1))] (mset s6 24 2 (w32 ((s6 24 2) + 1)))) (fun r7 s8 => bIn r7 2 (some (r7, s8)))) (bK ((mcall d) 61 [(26, 24), (0, r1), (0, w32 (x1 + 1))] (mset s6 24 2 (w32 ((s6 24 2) + 1)))) (fun r9 s10 => bIn r9 2 (some (r9, s10))))) (bIn 0 2 (some (0, s6)))) (bEq r1 45 (bLt x1 6 (bEq r1 40 (bK ((mcall d) 60 [(26, 24), (0, w32 (x1 + 1))] (mset s6 24 2 (w32 ((s6 24 2) + 1)))) (fun r11 s12 => bIn r11 2 (some (r11, s12)))) (bK ((mcall d) 61 [(26, 24), (0, r1), (0, w32 (x1 + 1))] (mset s6 24 2 (w32 ((s6 24 2) + 1)))) (fun r13 s14 => bIn r13 2 (some (r13, s14))))) (bIn 0 2 (some (0, s6)))) (bEq r1 40 (bLt x1 6 (bEq r1 40 (bK ((mcall d) 60 [(26, 24), (0, w32 (x1 + 1))] (mset s6 24 2 (w32 ((s6 24 2) + 1)))) (fun r15 s16 => bIn r15 2 (some (r15, s16)))) (bK ((mcall d) 61 [(26, 24), (0, r1), (0, w32 (x1 + 1))] (mset s6 24 2 (w32 ((s6 24 2) + 1)))) (fun r17 s18 => bIn r17 2 (some (r17, s18))))) (bIn 0 2 (some (0, s6)))) (bIn 0 2 (some (0, s6)))))) (bLt ((mset s6 24 2 (w32 ((s6 24 2) + 1))) 24 3) 0 none (bK ((mcall d) 28 [(0, r1)] (mset s6 24 2 (w32 ((s6 24 2) + 1)))) (fun r19 s20 => bK ((mcall d) 23 [(22, (mset s6 24 2 (w32 ((s6 24 2) + 1))) 24 3), (0, 97), (0, r19)] s20) (fun _ s22 => bIn 1 2 (some (1, s22)))))))) (bK ((mcall d) 62 [(26, 24)] s4) (fun _ s24 => bIn 1 2 (some (1, s24)))))) := (mcall_blk d 59 [] 999 _ σ rfl).trans rfl
set_option maxRecDepth 100000 in
/-- EiderClimate$Tape.readToClose -/
theorem e_60 (d : Nat) (x1 : Int) (σ : mM) : mcall (d + 1) 60 [(26, 24), (0, x1)] σ =
  bK ((mcall d) 58 [(26, 24), (0, 0), (0, x1)] σ) (fun r1 s2 => bEq r1 0 (bIn 0 2 (some (0, s2))) (bK ((mcall d) 63 [(26, 24)] s2) (fun r3 s4 => bEq r3 41 (bIn 1 2 (some (1, mset s4 24 2 (w32 ((s4 24 2) + 1))))) (bIn 0 2 (some (0, s4)))))) := (mcall_blk d 60 [] 999 _ σ rfl).trans rfl
set_option maxRecDepth 100000 in
/-- EiderClimate$Tape.readAhead -/
theorem e_61 (d : Nat) (x1 : Int) (x2 : Int) (σ : mM) : mcall (d + 1) 61 [(26, 24), (0, x1), (0, x2)] σ =
  bK ((mcall d) 59 [(26, 24), (0, x2)] σ) (fun r1 s2 => bEq r1 0 (bIn 0 2 (some (0, s2))) (bLt (s2 24 3) 0 none (bEq x1 45 (bK ((mcall d) 23 [(22, s2 24 3), (0, 126), (0, 0)] s2) (fun _ s4 => bIn 1 2 (some (1, s4)))) (bK ((mcall d) 23 [(22, s2 24 3), (0, x1), (0, 0)] s2) (fun _ s6 => bIn 1 2 (some (1, s6))))))) := (mcall_blk d 61 [] 999 _ σ rfl).trans rfl
set_option maxRecDepth 100000 in
/-- EiderClimate$Tape.readNumber -/
theorem e_62 (d : Nat)  (σ : mM) : mcall (d + 1) 62 [(26, 24)] σ =
  mgo (mcall d) (mX 62 σ) 62 4 [(26, 24), (0, 0), (0, 0)] [] σ := (mcall_blk d 62 [4] 999 _ σ rfl).trans rfl
set_option maxRecDepth 100000 in
theorem b_62_4 (K : mK) (mx : Int × Int) (v1 : Int) (v2 : Int) (σ : mM) : mgo K mx 62 4 [(26, 24), (0, v1), (0, v2)] [] σ =
  bLt v2 4 (bK (K 63 [(26, 24)] σ) (fun r1 s2 => bK (K 64 [(0, r1)] s2) (fun r3 s4 => bEq r3 0 (bLt (s4 24 3) 0 none (bK (K 23 [(22, s4 24 3), (0, 48), (0, v1)] s4) (fun _ s6 => some (0, s6)))) (bK (K 63 [(26, 24)] s4) (fun r7 s8 => mgo K mx 62 4 [(26, 24), (0, w32 ((w32 ((w32 (v1 * 10)) + r7)) - 48)), (0, w32 (v2 + 1))] [] (mset s8 24 2 (w32 ((s8 24 2) + 1)))))))) (bLt (σ 24 3) 0 none (bK (K 23 [(22, σ 24 3), (0, 48), (0, v1)] σ) (fun _ s10 => some (0, s10)))) := (mgo_blk K mx 62 [4] 999 _ _ _ σ).trans rfl
set_option maxRecDepth 100000 in
/-- EiderClimate$Tape.next -/
theorem e_63 (d : Nat)  (σ : mM) : mcall (d + 1) 63 [(26, 24)] σ =
  bLt (σ 24 2) 0 (some (-1, σ)) (bLt (σ 24 2) (σ 24 1) (bIn (σ 24 2) 120 (some (σ 25 (σ 24 2).toNat, σ))) (some (-1, σ))) := (mcall_blk d 63 [] 999 _ σ rfl).trans rfl
set_option maxRecDepth 100000 in
/-- EiderClimate$Tape.isDigit -/
theorem e_64 (d : Nat) (x1 : Int) (σ : mM) : mcall (d + 1) 64 [(0, x1)] σ =
  bLt x1 48 (bIn 0 2 (some (0, σ))) (bLt 57 x1 (bIn 0 2 (some (0, σ))) (bIn 1 2 (some (1, σ)))) := (mcall_blk d 64 [] 999 _ σ rfl).trans rfl
set_option maxRecDepth 100000 in
/-- EiderClimate$Tape.rankOf -/
theorem e_65 (d : Nat) (x1 : Int) (σ : mM) : mcall (d + 1) 65 [(0, x1)] σ =
  bEq x1 37 (some (4, σ)) (bEq x1 38 (some (1, σ)) (bEq x1 42 (some (4, σ)) (bEq x1 43 (some (3, σ)) (bEq x1 45 (some (3, σ)) (bEq x1 47 (some (4, σ)) (bEq x1 60 (some (2, σ)) (bEq x1 61 (some (2, σ)) (bEq x1 62 (some (2, σ)) (bEq x1 124 (some (0, σ)) (some (-1, σ))))))))))) := (mcall_blk d 65 [] 999 _ σ rfl).trans rfl
set_option maxRecDepth 100000 in
/-- EiderClimate$Thought.behind -/
theorem e_67 (d : Nat) (x1 : Int) (σ : mM) : mcall (d + 1) 67 [(27, 26), (0, x1)] σ =
  bK ((mcall d) 6 [(21, 27), (21, 2)] σ) (fun _ s2 => mgo (mcall d) (mX 67 σ) 67 16 [(27, 26), (0, x1), (0, 0)] [] s2) := (mcall_blk d 67 [16] 999 _ σ rfl).trans rfl
set_option maxRecDepth 100000 in
theorem b_67_16 (K : mK) (mx : Int × Int) (v1 : Int) (v2 : Int) (σ : mM) : mgo K mx 67 16 [(27, 26), (0, v1), (0, v2)] [] σ =
  bLt v2 v1 (bK (K 14 [(21, 27), (0, σ 1 5)] σ) (fun _ s2 => mgo K mx 67 16 [(27, 26), (0, v1), (0, w32 (v2 + 1))] [] s2)) (some (27, σ)) := (mgo_blk K mx 67 [16] 999 _ _ _ σ).trans rfl
set_option maxRecDepth 100000 in
/-- EiderClimate$Thought.firstCold -/
theorem e_68 (d : Nat) (x1 : Int) (σ : mM) : mcall (d + 1) 68 [(27, 26), (0, x1)] σ =
  bK ((mcall d) 6 [(21, 27), (21, 2)] σ) (fun _ s2 => mgo (mcall d) (mX 68 σ) 68 16 [(27, 26), (0, x1), (0, 0)] [] s2) := (mcall_blk d 68 [16] 999 _ σ rfl).trans rfl
set_option maxRecDepth 100000 in
theorem b_68_16 (K : mK) (mx : Int × Int) (v1 : Int) (v2 : Int) (σ : mM) : mgo K mx 68 16 [(27, 26), (0, v1), (0, v2)] [] σ =
  bLt 48 v2 (some (-2, σ)) (bK (K 43 [(24, 1), (21, 27), (0, v1)] σ) (fun r1 s2 => bEq r1 0 (bK (K 14 [(21, 27), (0, s2 1 5)] s2) (fun _ s4 => mgo K mx 68 16 [(27, 26), (0, v1), (0, w32 (v2 + 1))] [] s4)) (some (v2, s2)))) := (mgo_blk K mx 68 [16] 999 _ _ _ σ).trans rfl
set_option maxRecDepth 100000 in
/-- EiderClimate$Thought.timesCold -/
theorem e_69 (d : Nat) (x1 : Int) (x2 : Int) (σ : mM) : mcall (d + 1) 69 [(27, 26), (0, x1), (0, x2)] σ =
  bK ((mcall d) 6 [(21, 27), (21, 2)] σ) (fun _ s2 => mgo (mcall d) (mX 69 σ) 69 19 [(27, 26), (0, x1), (0, x2), (0, 0), (0, 0)] [] s2) := (mcall_blk d 69 [19] 999 _ σ rfl).trans rfl
set_option maxRecDepth 100000 in
theorem b_69_19 (K : mK) (mx : Int × Int) (v1 : Int) (v2 : Int) (v3 : Int) (v4 : Int) (σ : mM) : mgo K mx 69 19 [(27, 26), (0, v1), (0, v2), (0, v3), (0, v4)] [] σ =
  bLt v2 v4 (some (v3, σ)) (bK (K 43 [(24, 1), (21, 27), (0, v1)] σ) (fun r1 s2 => bEq r1 0 (bK (K 14 [(21, 27), (0, s2 1 5)] s2) (fun _ s4 => mgo K mx 69 19 [(27, 26), (0, v1), (0, v2), (0, v3), (0, w32 (v4 + 1))] [] s4)) (bK (K 14 [(21, 27), (0, s2 1 5)] s2) (fun _ s6 => mgo K mx 69 19 [(27, 26), (0, v1), (0, v2), (0, w32 (v3 + 1)), (0, w32 (v4 + 1))] [] s6)))) := (mgo_blk K mx 69 [19] 999 _ _ _ σ).trans rfl
set_option maxRecDepth 100000 in
/-- EiderClimate$Thought.fewestPulls -/
theorem e_70 (d : Nat) (x1 : Int) (σ : mM) : mcall (d + 1) 70 [(27, 26), (0, x1)] σ =
  bK ((mcall d) 6 [(21, 27), (21, 2)] σ) (fun _ s2 => mgo (mcall d) (mX 70 σ) 70 16 [(27, 26), (0, x1), (0, 0)] [] s2) := (mcall_blk d 70 [16] 999 _ σ rfl).trans rfl
set_option maxRecDepth 100000 in
theorem b_70_16 (K : mK) (mx : Int × Int) (v1 : Int) (v2 : Int) (σ : mM) : mgo K mx 70 16 [(27, 26), (0, v1), (0, v2)] [] σ =
  bLt 3 v2 (some (-2, σ)) (bK (K 71 [(27, 26), (0, v1), (0, 0), (0, v2)] σ) (fun r1 s2 => bEq r1 0 (mgo K mx 70 16 [(27, 26), (0, v1), (0, w32 (v2 + 1))] [] s2) (some (v2, s2)))) := (mgo_blk K mx 70 [16] 999 _ _ _ σ).trans rfl
set_option maxRecDepth 100000 in
/-- EiderClimate$Thought.warmByPulls -/
theorem e_71 (d : Nat) (x1 : Int) (x2 : Int) (x3 : Int) (σ : mM) : mcall (d + 1) 71 [(27, 26), (0, x1), (0, x2), (0, x3)] σ =
  bLt x2 x3 (bLt x2 3 (mgo (mcall d) (mX 71 σ) 71 37 [(27, 26), (0, x1), (0, x2), (0, x3), (0, 0), (0, 0)] [] σ) (bK ((mcall d) 43 [(24, 1), (21, 27), (0, x1)] σ) (fun r1 s2 => bEq r1 0 (bIn 1 2 (some (1, s2))) (bIn 0 2 (some (0, s2)))))) (bK ((mcall d) 43 [(24, 1), (21, 27), (0, x1)] σ) (fun r3 s4 => bEq r3 0 (bIn 1 2 (some (1, s4))) (bIn 0 2 (some (0, s4))))) := (mcall_blk d 71 [37] 999 _ σ rfl).trans rfl
set_option maxRecDepth 100000 in
theorem b_71_37 (K : mK) (mx : Int × Int) (v1 : Int) (v2 : Int) (v3 : Int) (v4 : Int) (v5 : Int) (σ : mM) : mgo K mx 71 37 [(27, 26), (0, v1), (0, v2), (0, v3), (0, v4), (0, v5)] [] σ =
  bLt v5 10 (bEq v4 0 (bIn v2 3 (bEq 2 0 none (bEq 2 0 none (bK (K 17 [(21, 27), (0, w32 (Int.tdiv v5 2)), (0, Int.tmod v5 2)] (mset σ 32 v2.toNat v5)) (fun _ s2 => bK (K 71 [(27, 26), (0, v1), (0, w32 (v2 + 1)), (0, v3)] s2) (fun r3 s4 => bEq 2 0 none (bEq 2 0 none (bK (K 17 [(21, 27), (0, w32 (Int.tdiv v5 2)), (0, w32 (1 - (Int.tmod v5 2)))] s4) (fun _ s6 => mgo K mx 71 37 [(27, 26), (0, v1), (0, v2), (0, v3), (0, r3), (0, w32 (v5 + 1))] [] s6))))))))) (bIn v4 2 (some (v4, σ)))) (bIn v4 2 (some (v4, σ))) := (mgo_blk K mx 71 [37] 999 _ _ _ σ).trans rfl
set_option maxRecDepth 100000 in
/-- EiderClimate$Thought.tryShakes -/
theorem e_72 (d : Nat)  (σ : mM) : mcall (d + 1) 72 [(27, 26)] σ =
  mgo (mcall d) (mX 72 σ) 72 8 [(27, 26), (0, 0)] [] (mset σ 26 4 9) := (mcall_blk d 72 [8] 999 _ σ rfl).trans rfl
set_option maxRecDepth 100000 in
theorem b_72_8 (K : mK) (mx : Int × Int) (v1 : Int) (σ : mM) : mgo K mx 72 8 [(27, 26), (0, v1)] [] σ =
  bLt v1 30 (bK (K 12 [(0, v1)] σ) (fun r1 s2 => bEq r1 0 (mgo K mx 72 8 [(27, 26), (0, w32 (v1 + 1))] [] s2) (bK (K 6 [(21, 27), (21, 2)] s2) (fun _ s4 => bK (K 19 [(21, 27), (0, v1)] s4) (fun _ s6 => bK (K 74 [(27, 26), (0, v1)] s6) (fun _ s8 => mgo K mx 72 8 [(27, 26), (0, w32 (v1 + 1))] [] s8)))))) (some (0, σ)) := (mgo_blk K mx 72 [8] 999 _ _ _ σ).trans rfl
set_option maxRecDepth 100000 in
/-- EiderClimate$Thought.tryStuffings -/
theorem e_73 (d : Nat) (x1 : Int) (σ : mM) : mcall (d + 1) 73 [(27, 26), (0, x1)] σ =
  bEq x1 0 (bK ((mcall d) 6 [(21, 27), (21, 2)] (mset σ 26 4 9)) (fun _ s2 => bK ((mcall d) 74 [(27, 26), (0, -9)] s2) (fun _ s4 => some (0, s4)))) (mgo (mcall d) (mX 73 σ) 73 33 [(27, 26), (0, x1), (0, 0), (2, 0), (2, 0), (2, 0)] [] (mset σ 26 4 9)) := (mcall_blk d 73 [33, 68] 999 _ σ rfl).trans rfl
set_option maxRecDepth 100000 in
theorem b_73_33 (K : mK) (mx : Int × Int) (v1 : Int) (v2 : Int) (v3 : Int) (v4 : Int) (v5 : Int) (σ : mM) : mgo K mx 73 33 [(27, 26), (0, v1), (0, v2), (0, v3), (0, v4), (0, v5)] [] σ =
  bLt v2 30 (bEq v1 1 (bEq v1 1 (mgo K mx 73 68 [(27, 26), (0, v1), (0, v2), (0, v2), (0, v2), (0, v2)] [] σ) (mgo K mx 73 68 [(27, 26), (0, v1), (0, v2), (0, v2), (0, 29), (0, v2)] [] σ)) (bEq v1 1 (mgo K mx 73 68 [(27, 26), (0, v1), (0, v2), (0, w32 (v2 + 1)), (0, v2), (0, w32 (v2 + 1))] [] σ) (mgo K mx 73 68 [(27, 26), (0, v1), (0, v2), (0, w32 (v2 + 1)), (0, 29), (0, w32 (v2 + 1))] [] σ))) (some (0, σ)) := (mgo_blk K mx 73 [33, 68] 999 _ _ _ σ).trans rfl
set_option maxRecDepth 100000 in
theorem b_73_33a (K : mK) (mx : Int × Int) (v1 : Int) (v2 : Int) (σ : mM) : mgo K mx 73 33 [(27, 26), (0, v1), (0, v2), (2, 0), (2, 0), (2, 0)] [] σ =
  bLt v2 30 (bEq v1 1 (bEq v1 1 (mgo K mx 73 68 [(27, 26), (0, v1), (0, v2), (0, v2), (0, v2), (0, v2)] [] σ) (mgo K mx 73 68 [(27, 26), (0, v1), (0, v2), (0, v2), (0, 29), (0, v2)] [] σ)) (bEq v1 1 (mgo K mx 73 68 [(27, 26), (0, v1), (0, v2), (0, w32 (v2 + 1)), (0, v2), (0, w32 (v2 + 1))] [] σ) (mgo K mx 73 68 [(27, 26), (0, v1), (0, v2), (0, w32 (v2 + 1)), (0, 29), (0, w32 (v2 + 1))] [] σ))) (some (0, σ)) := (mgo_blk K mx 73 [33, 68] 999 _ _ _ σ).trans rfl
set_option maxRecDepth 100000 in
theorem b_73_68 (K : mK) (mx : Int × Int) (v1 : Int) (v2 : Int) (v3 : Int) (v4 : Int) (v5 : Int) (σ : mM) : mgo K mx 73 68 [(27, 26), (0, v1), (0, v2), (0, v3), (0, v4), (0, v5)] [] σ =
  bLt v4 v5 (mgo K mx 73 33 [(27, 26), (0, v1), (0, w32 (v2 + 1)), (0, v3), (0, v4), (0, v5)] [] σ) (bK (K 6 [(21, 27), (21, 2)] σ) (fun _ s2 => bK (K 9 [(21, 27), (0, v2), (0, 2), (0, 9), (0, 0)] s2) (fun _ s4 => bK (K 9 [(21, 27), (0, v5), (0, 2), (0, 9), (0, 0)] s4) (fun _ s6 => bEq v1 1 (bK (K 74 [(27, 26), (0, v2)] s6) (fun _ s8 => mgo K mx 73 68 [(27, 26), (0, v1), (0, v2), (0, v3), (0, v4), (0, w32 (v5 + 1))] [] s8)) (bK (K 74 [(27, 26), (0, w32 ((w32 (30 * v2)) + v5))] s6) (fun _ s10 => mgo K mx 73 68 [(27, 26), (0, v1), (0, v2), (0, v3), (0, v4), (0, w32 (v5 + 1))] [] s10)))))) := (mgo_blk K mx 73 [33, 68] 999 _ _ _ σ).trans rfl
set_option maxRecDepth 100000 in
/-- EiderClimate$Thought.weigh -/
theorem e_74 (d : Nat) (x1 : Int) (σ : mM) : mcall (d + 1) 74 [(27, 26), (0, x1)] σ =
  bK ((mcall d) 44 [(24, 1), (21, 27)] σ) (fun r1 s2 => bK ((mcall d) 228 [(0, r1)] s2) (fun r3 s4 => bLt r3 (s4 26 4) (some (0, mset (mset s4 26 4 r3) 26 3 x1)) (some (0, s4)))) := (mcall_blk d 74 [] 999 _ σ rfl).trans rfl
set_option maxRecDepth 100000 in
/-- EiderClimate$Thought.firstWrong -/
theorem e_75 (d : Nat) (x1 : Nat) (x2 : Int) (σ : mM) : mcall (d + 1) 75 [(27, 26), (23, (x1 : Int)), (0, x2)] σ =
  bK ((mcall d) 6 [(21, 27), (21, 2)] σ) (fun _ s2 => bK ((mcall d) 76 [(27, 26), (23, (x1 : Int)), (0, x2)] s2) (fun r3 s4 => some (r3, s4))) := (mcall_blk d 75 [] 999 _ σ rfl).trans rfl
set_option maxRecDepth 100000 in
/-- EiderClimate$Thought.firstUnlike -/
theorem e_76 (d : Nat) (x1 : Nat) (x2 : Int) (σ : mM) : mcall (d + 1) 76 [(27, 26), (23, (x1 : Int)), (0, x2)] σ =
  mgo (mcall d) (mX 76 σ) 76 13 [(27, 26), (23, (x1 : Int)), (0, x2), (0, if 49 < (σ x1 2) then 49 else (σ x1 2)), (0, 0)] [] σ := (mcall_blk d 76 [13] 999 _ σ rfl).trans rfl
set_option maxRecDepth 100000 in
theorem b_76_13 (K : mK) (mx : Int × Int) (x1 : Nat) (v2 : Int) (v3 : Int) (v4 : Int) (σ : mM) : mgo K mx 76 13 [(27, 26), (23, (x1 : Int)), (0, v2), (0, v3), (0, v4)] [] σ =
  bLt v4 v3 (bLt (σ 1 6) 0 none (bK (K 25 [(22, σ 1 6), (21, 27), (0, v2)] σ) (fun r1 s2 => bIn v4 60 (bEq (if r1 < (s2 (x1 + 1) v4.toNat) then -1 else if r1 = (s2 (x1 + 1) v4.toNat) then 0 else 1) 0 (bK (K 14 [(21, 27), (0, s2 1 5)] s2) (fun _ s4 => mgo K mx 76 13 [(27, 26), (23, (x1 : Int)), (0, v2), (0, v3), (0, w32 (v4 + 1))] [] s4)) (some (v4, s2)))))) (some (-2, σ)) := (mgo_blk K mx 76 [13] 999 _ _ _ σ).trans rfl
set_option maxRecDepth 100000 in
/-- EiderClimate$Thought.fitting -/
theorem e_77 (d : Nat) (x1 : Nat) (x2 : Int) (x3 : Int) (x4 : Int) (σ : mM) : mcall (d + 1) 77 [(27, 26), (23, (x1 : Int)), (0, x2), (0, x3), (0, x4)] σ =
  mgo (mcall d) (mX 77 σ) 77 6 [(27, 26), (23, (x1 : Int)), (0, x2), (0, x3), (0, x4), (0, 0), (0, 0)] [] σ := (mcall_blk d 77 [6] 999 _ σ rfl).trans rfl
set_option maxRecDepth 100000 in
theorem b_77_6 (K : mK) (mx : Int × Int) (x1 : Nat) (v2 : Int) (v3 : Int) (v4 : Int) (v5 : Int) (v6 : Int) (σ : mM) : mgo K mx 77 6 [(27, 26), (23, (x1 : Int)), (0, v2), (0, v3), (0, v4), (0, v5), (0, v6)] [] σ =
  bIn v4 8 (bLt (σ 900 v4.toNat) v6 (some (v5, σ)) (bK (K 6 [(21, 27), (21, 2)] σ) (fun _ s2 => bK (K 8 [(21, 27), (0, v3), (0, v4), (0, v6)] s2) (fun _ s4 => bK (K 76 [(27, 26), (23, (x1 : Int)), (0, v2)] s4) (fun r5 s6 => bEq r5 (-2) (mgo K mx 77 6 [(27, 26), (23, (x1 : Int)), (0, v2), (0, v3), (0, v4), (0, m32 (· ||| ·) v5 (m32 (fun x y => x <<< (y &&& 31)) 1 v6)), (0, w32 (v6 + 1))] [] s6) (mgo K mx 77 6 [(27, 26), (23, (x1 : Int)), (0, v2), (0, v3), (0, v4), (0, v5), (0, w32 (v6 + 1))] [] s6)))))) := (mgo_blk K mx 77 [6] 999 _ _ _ σ).trans rfl
set_option maxRecDepth 100000 in
/-- EiderClimate$Thought.pullByTurns -/
theorem e_78 (d : Nat) (x1 : Int) (x2 : Int) (x3 : Int) (σ : mM) : mcall (d + 1) 78 [(27, 26), (0, x1), (0, x2), (0, x3)] σ =
  bK ((mcall d) 6 [(21, 27), (21, 2)] σ) (fun _ s2 => bEq 10 0 none (bEq 10 0 none (bEq 10 0 none (bEq 10 0 none (bK ((mcall d) 79 [(27, 26), (0, 0), (0, x3)] (mset (mset (mset (mset s2 26 5 (w32 (Int.tdiv x1 10))) 26 6 (Int.tmod x1 10)) 26 7 (w32 (Int.tdiv x2 10))) 26 8 (Int.tmod x2 10))) (fun r3 s4 => some (r3, s4))))))) := (mcall_blk d 78 [] 999 _ σ rfl).trans rfl
set_option maxRecDepth 100000 in
/-- EiderClimate$Thought.bestFrom -/
theorem e_79 (d : Nat) (x1 : Int) (x2 : Int) (σ : mM) : mcall (d + 1) 79 [(27, 26), (0, x1), (0, x2)] σ =
  bLt x1 x2 (bEq 2 0 none (bEq (Int.tmod x1 2) 0 (bEq 1 0 (bK ((mcall d) 79 [(27, 26), (0, w32 (x1 + 1)), (0, x2)] σ) (fun r1 s2 => mgo (mcall d) (mX 79 σ) 79 106 [(27, 26), (0, x1), (0, x2), (0, 1), (0, σ 26 8), (0, r1), (0, 2), (0, 0), (2, 0)] [] s2)) (bK ((mcall d) 79 [(27, 26), (0, w32 (x1 + 1)), (0, x2)] σ) (fun r3 s4 => mgo (mcall d) (mX 79 σ) 79 106 [(27, 26), (0, x1), (0, x2), (0, 1), (0, σ 26 7), (0, r3), (0, 2), (0, 0), (2, 0)] [] s4))) (bEq 0 0 (bK ((mcall d) 79 [(27, 26), (0, w32 (x1 + 1)), (0, x2)] σ) (fun r5 s6 => mgo (mcall d) (mX 79 σ) 79 106 [(27, 26), (0, x1), (0, x2), (0, 0), (0, σ 26 8), (0, r5), (0, 2), (0, 0), (2, 0)] [] s6)) (bK ((mcall d) 79 [(27, 26), (0, w32 (x1 + 1)), (0, x2)] σ) (fun r7 s8 => mgo (mcall d) (mX 79 σ) 79 106 [(27, 26), (0, x1), (0, x2), (0, 0), (0, σ 26 7), (0, r7), (0, 2), (0, 0), (2, 0)] [] s8))))) (bLt (σ 1 6) 0 none (bIn (σ 26 5) 8 (bK ((mcall d) 25 [(22, σ 1 6), (21, 27), (0, σ 7 (σ 26 5).toNat)] σ) (fun r9 s10 => bLt (s10 1 6) 0 none (bIn (s10 26 6) 8 (bK ((mcall d) 25 [(22, s10 1 6), (21, 27), (0, s10 7 (s10 26 6).toNat)] s10) (fun r11 s12 => some (w32 (r9 - r11), s12)))))))) := (mcall_blk d 79 [106] 999 _ σ rfl).trans rfl
set_option maxRecDepth 100000 in
theorem b_79_106 (K : mK) (mx : Int × Int) (v1 : Int) (v2 : Int) (v3 : Int) (v4 : Int) (v5 : Int) (v6 : Int) (v7 : Int) (v8 : Int) (σ : mM) : mgo K mx 79 106 [(27, 26), (0, v1), (0, v2), (0, v3), (0, v4), (0, v5), (0, v6), (0, v7), (0, v8)] [] σ =
  bLt v7 2 (bK (K 17 [(21, 27), (0, v4), (0, v7)] σ) (fun _ s2 => bK (K 79 [(27, 26), (0, w32 (v1 + 1)), (0, v2)] s2) (fun r3 s4 => bK (K 17 [(21, 27), (0, v4), (0, w32 (1 - v7))] s4) (fun _ s6 => bEq v3 0 (bLt r3 v5 (mgo K mx 79 106 [(27, 26), (0, v1), (0, v2), (0, v3), (0, v4), (0, r3), (0, v7), (0, w32 (v7 + 1)), (0, r3)] [] s6) (mgo K mx 79 106 [(27, 26), (0, v1), (0, v2), (0, v3), (0, v4), (0, v5), (0, v6), (0, w32 (v7 + 1)), (0, r3)] [] s6)) (bLt v5 r3 (mgo K mx 79 106 [(27, 26), (0, v1), (0, v2), (0, v3), (0, v4), (0, r3), (0, v7), (0, w32 (v7 + 1)), (0, r3)] [] s6) (mgo K mx 79 106 [(27, 26), (0, v1), (0, v2), (0, v3), (0, v4), (0, v5), (0, v6), (0, w32 (v7 + 1)), (0, r3)] [] s6)))))) (bEq v1 0 (some (v5, mset σ 26 9 v6)) (some (v5, σ))) := (mgo_blk K mx 79 [106] 999 _ _ _ σ).trans rfl
set_option maxRecDepth 100000 in
theorem b_79_106a (K : mK) (mx : Int × Int) (v1 : Int) (v2 : Int) (v3 : Int) (v4 : Int) (v5 : Int) (v6 : Int) (v7 : Int) (σ : mM) : mgo K mx 79 106 [(27, 26), (0, v1), (0, v2), (0, v3), (0, v4), (0, v5), (0, v6), (0, v7), (2, 0)] [] σ =
  bLt v7 2 (bK (K 17 [(21, 27), (0, v4), (0, v7)] σ) (fun _ s2 => bK (K 79 [(27, 26), (0, w32 (v1 + 1)), (0, v2)] s2) (fun r3 s4 => bK (K 17 [(21, 27), (0, v4), (0, w32 (1 - v7))] s4) (fun _ s6 => bEq v3 0 (bLt r3 v5 (mgo K mx 79 106 [(27, 26), (0, v1), (0, v2), (0, v3), (0, v4), (0, r3), (0, v7), (0, w32 (v7 + 1)), (0, r3)] [] s6) (mgo K mx 79 106 [(27, 26), (0, v1), (0, v2), (0, v3), (0, v4), (0, v5), (0, v6), (0, w32 (v7 + 1)), (0, r3)] [] s6)) (bLt v5 r3 (mgo K mx 79 106 [(27, 26), (0, v1), (0, v2), (0, v3), (0, v4), (0, r3), (0, v7), (0, w32 (v7 + 1)), (0, r3)] [] s6) (mgo K mx 79 106 [(27, 26), (0, v1), (0, v2), (0, v3), (0, v4), (0, v5), (0, v6), (0, w32 (v7 + 1)), (0, r3)] [] s6)))))) (bEq v1 0 (some (v5, mset σ 26 9 v6)) (some (v5, σ))) := (mgo_blk K mx 79 [106] 999 _ _ _ σ).trans rfl
set_option maxRecDepth 100000 in
/-- EiderClimate$Thought.coldByDraws -/
theorem e_80 (d : Nat) (x1 : Int) (x2 : Int) (x3 : Int) (x4 : Int) (σ : mM) : mcall (d + 1) 80 [(27, 26), (0, x1), (0, x2), (0, x3), (0, x4)] σ =
  mgo (mcall d) (mX 80 σ) 80 9 [(27, 26), (0, x1), (0, x2), (0, x3), (0, x4), (0, x1), (0, 0), (0, 0), (2, 0)] [] σ := (mcall_blk d 80 [9, 32] 999 _ σ rfl).trans rfl
set_option maxRecDepth 100000 in
theorem b_80_9 (K : mK) (mx : Int × Int) (v1 : Int) (v2 : Int) (v3 : Int) (v4 : Int) (v5 : Int) (v6 : Int) (v7 : Int) (v8 : Int) (σ : mM) : mgo K mx 80 9 [(27, 26), (0, v1), (0, v2), (0, v3), (0, v4), (0, v5), (0, v6), (0, v7), (0, v8)] [] σ =
  bLt v7 v2 (bK (K 6 [(21, 27), (21, 2)] σ) (fun _ s2 => mgo K mx 80 32 [(27, 26), (0, v1), (0, v2), (0, v3), (0, v4), (0, v5), (0, v6), (0, v7), (0, 0)] [] s2)) (some (v6, σ)) := (mgo_blk K mx 80 [9, 32] 999 _ _ _ σ).trans rfl
set_option maxRecDepth 100000 in
theorem b_80_9a (K : mK) (mx : Int × Int) (v1 : Int) (v2 : Int) (v3 : Int) (v4 : Int) (v5 : Int) (v6 : Int) (v7 : Int) (σ : mM) : mgo K mx 80 9 [(27, 26), (0, v1), (0, v2), (0, v3), (0, v4), (0, v5), (0, v6), (0, v7), (2, 0)] [] σ =
  bLt v7 v2 (bK (K 6 [(21, 27), (21, 2)] σ) (fun _ s2 => mgo K mx 80 32 [(27, 26), (0, v1), (0, v2), (0, v3), (0, v4), (0, v5), (0, v6), (0, v7), (0, 0)] [] s2)) (some (v6, σ)) := (mgo_blk K mx 80 [9, 32] 999 _ _ _ σ).trans rfl
set_option maxRecDepth 100000 in
theorem b_80_32 (K : mK) (mx : Int × Int) (v1 : Int) (v2 : Int) (v3 : Int) (v4 : Int) (v5 : Int) (v6 : Int) (v7 : Int) (v8 : Int) (σ : mM) : mgo K mx 80 32 [(27, 26), (0, v1), (0, v2), (0, v3), (0, v4), (0, v5), (0, v6), (0, v7), (0, v8)] [] σ =
  bLt v8 v3 (bK (K 81 [(27, 26), (0, w32 ((w32 (v5 * 1103515245)) + 12345))] σ) (fun _ s2 => bLt v4 0 (bK (K 44 [(24, 1), (21, 27)] s2) (fun r3 s4 => bK (K 228 [(0, r3)] s4) (fun r5 s6 => bK (K 14 [(21, 27), (0, s6 1 5)] s6) (fun _ s8 => mgo K mx 80 32 [(27, 26), (0, v1), (0, v2), (0, v3), (0, v4), (0, w32 ((w32 (v5 * 1103515245)) + 12345)), (0, w32 (v6 + r5)), (0, v7), (0, w32 (v8 + 1))] [] s8)))) (bK (K 43 [(24, 1), (21, 27), (0, v4)] s2) (fun r9 s10 => bEq r9 0 (bK (K 14 [(21, 27), (0, s10 1 5)] s10) (fun _ s12 => mgo K mx 80 32 [(27, 26), (0, v1), (0, v2), (0, v3), (0, v4), (0, w32 ((w32 (v5 * 1103515245)) + 12345)), (0, w32 (v6 + 0)), (0, v7), (0, w32 (v8 + 1))] [] s12)) (bK (K 14 [(21, 27), (0, s10 1 5)] s10) (fun _ s14 => mgo K mx 80 32 [(27, 26), (0, v1), (0, v2), (0, v3), (0, v4), (0, w32 ((w32 (v5 * 1103515245)) + 12345)), (0, w32 (v6 + 1)), (0, v7), (0, w32 (v8 + 1))] [] s14)))))) (mgo K mx 80 9 [(27, 26), (0, v1), (0, v2), (0, v3), (0, v4), (0, v5), (0, v6), (0, w32 (v7 + 1)), (0, v8)] [] σ) := (mgo_blk K mx 80 [9, 32] 999 _ _ _ σ).trans rfl
set_option maxRecDepth 100000 in
/-- EiderClimate$Thought.draw -/
theorem e_81 (d : Nat) (x1 : Int) (σ : mM) : mcall (d + 1) 81 [(27, 26), (0, x1)] σ =
  bEq 3 0 none (bEq (Int.tmod (m32 (fun x y => (x.toUInt32 >>> (y.toUInt32 &&& Int32.toUInt32 31)).toInt32) x1 8) 3) 0 (bEq 5 0 none (bK ((mcall d) 17 [(21, 27), (0, Int.tmod (m32 (fun x y => (x.toUInt32 >>> (y.toUInt32 &&& Int32.toUInt32 31)).toInt32) x1 16) 5), (0, 0)] σ) (fun _ s2 => some (0, s2)))) (bEq (Int.tmod (m32 (fun x y => (x.toUInt32 >>> (y.toUInt32 &&& Int32.toUInt32 31)).toInt32) x1 8) 3) 1 (bEq 30 0 none (bIn (Int.tmod (m32 (fun x y => (x.toUInt32 >>> (y.toUInt32 &&& Int32.toUInt32 31)).toInt32) x1 16) 30) 30 (bIn (Int.tmod (m32 (fun x y => (x.toUInt32 >>> (y.toUInt32 &&& Int32.toUInt32 31)).toInt32) x1 16) 30) 30 (some (0, mset σ 29 (Int.tmod (m32 (fun x y => (x.toUInt32 >>> (y.toUInt32 &&& Int32.toUInt32 31)).toInt32) x1 16) 30).toNat (if 0 < (w32 ((σ 29 (Int.tmod (m32 (fun x y => (x.toUInt32 >>> (y.toUInt32 &&& Int32.toUInt32 31)).toInt32) x1 16) 30).toNat) - 1)) then (w32 ((σ 29 (Int.tmod (m32 (fun x y => (x.toUInt32 >>> (y.toUInt32 &&& Int32.toUInt32 31)).toInt32) x1 16) 30).toNat) - 1)) else 0)))))) (some (0, σ)))) := (mcall_blk d 81 [] 999 _ σ rfl).trans rfl
set_option maxRecDepth 100000 in
/-- EiderClimate$Ways.findWay -/
theorem e_83 (d : Nat) (x1 : Int) (x2 : Int) (σ : mM) : mcall (d + 1) 83 [(28, 33), (0, x1), (0, x2)] σ =
  bIn x1 30 (bIn x2 30 (mgo (mcall d) (mX 83 σ) 83 16 [(28, 33), (0, x1), (0, x2), (0, if (σ 34 x2.toNat) < (σ 34 x1.toNat) then (σ 34 x2.toNat) else (σ 34 x1.toNat)), (2, 0)] [] σ)) := (mcall_blk d 83 [16, 27] 999 _ σ rfl).trans rfl
set_option maxRecDepth 100000 in
theorem b_83_16 (K : mK) (mx : Int × Int) (v1 : Int) (v2 : Int) (v3 : Int) (v4 : Int) (σ : mM) : mgo K mx 83 16 [(28, 33), (0, v1), (0, v2), (0, v3), (0, v4)] [] σ =
  bLt v3 0 (some (0, σ)) (bK (K 85 [(28, 33)] σ) (fun _ s2 => mgo K mx 83 27 [(28, 33), (0, v1), (0, v2), (0, v3), (0, 0)] [] s2)) := (mgo_blk K mx 83 [16, 27] 999 _ _ _ σ).trans rfl
set_option maxRecDepth 100000 in
theorem b_83_16a (K : mK) (mx : Int × Int) (v1 : Int) (v2 : Int) (v3 : Int) (σ : mM) : mgo K mx 83 16 [(28, 33), (0, v1), (0, v2), (0, v3), (2, 0)] [] σ =
  bLt v3 0 (some (0, σ)) (bK (K 85 [(28, 33)] σ) (fun _ s2 => mgo K mx 83 27 [(28, 33), (0, v1), (0, v2), (0, v3), (0, 0)] [] s2)) := (mgo_blk K mx 83 [16, 27] 999 _ _ _ σ).trans rfl
set_option maxRecDepth 100000 in
theorem b_83_27 (K : mK) (mx : Int × Int) (v1 : Int) (v2 : Int) (v3 : Int) (v4 : Int) (σ : mM) : mgo K mx 83 27 [(28, 33), (0, v1), (0, v2), (0, v3), (0, v4)] [] σ =
  bLt v4 30 (bIn v4 30 (bLt (σ 34 v4.toNat) v3 (bIn v4 30 (mgo K mx 83 27 [(28, 33), (0, v1), (0, v2), (0, v3), (0, w32 (v4 + 1))] [] (mset σ 35 v4.toNat 0))) (bIn v4 30 (mgo K mx 83 27 [(28, 33), (0, v1), (0, v2), (0, v3), (0, w32 (v4 + 1))] [] (mset σ 35 v4.toNat 1))))) (bK (K 86 [(28, 33), (0, v1)] σ) (fun r1 s2 => bIn v2 30 (bLt (s2 36 v2.toNat) 0 (mgo K mx 83 16 [(28, 33), (0, v1), (0, v2), (0, w32 (v3 + (-1))), (0, v4)] [] s2) (bIn v2 30 (some (0, mset (mset s2 33 4 v3) 33 5 ((mset s2 33 4 v3) 36 v2.toNat))))))) := (mgo_blk K mx 83 [16, 27] 999 _ _ _ σ).trans rfl
set_option maxRecDepth 100000 in
/-- EiderClimate$Ways.findPatches -/
theorem e_84 (d : Nat) (x1 : Nat) (σ : mM) : mcall (d + 1) 84 [(28, 33), (21, (x1 : Int))] σ =
  bK ((mcall d) 85 [(28, 33)] (mset (mset σ 33 6 0) 33 7 0)) (fun _ s2 => mgo (mcall d) (mX 84 σ) 84 16 [(28, 33), (21, (x1 : Int)), (0, 0)] [] s2) := (mcall_blk d 84 [16, 57] 999 _ σ rfl).trans rfl
set_option maxRecDepth 100000 in
theorem b_84_16 (K : mK) (mx : Int × Int) (x1 : Nat) (v2 : Int) (σ : mM) : mgo K mx 84 16 [(28, 33), (21, (x1 : Int)), (0, v2)] [] σ =
  bLt v2 30 (bIn v2 30 (bLt 0 (σ (x1 + 2) v2.toNat) (bIn v2 30 (bIn v2 30 (mgo K mx 84 16 [(28, 33), (21, (x1 : Int)), (0, w32 (v2 + 1))] [] (mset σ 35 v2.toNat (w32 ((σ (x1 + 1) v2.toNat) + 1)))))) (bIn v2 30 (mgo K mx 84 16 [(28, 33), (21, (x1 : Int)), (0, w32 (v2 + 1))] [] (mset σ 35 v2.toNat 0))))) (mgo K mx 84 57 [(28, 33), (21, (x1 : Int)), (0, 0)] [] σ) := (mgo_blk K mx 84 [16, 57] 999 _ _ _ σ).trans rfl
set_option maxRecDepth 100000 in
theorem b_84_57 (K : mK) (mx : Int × Int) (x1 : Nat) (v2 : Int) (σ : mM) : mgo K mx 84 57 [(28, 33), (21, (x1 : Int)), (0, v2)] [] σ =
  bLt v2 30 (bIn v2 30 (bLt 0 (σ 35 v2.toNat) (bIn v2 30 (bLt (σ 36 v2.toNat) 0 (bK (K 86 [(28, 33), (0, v2)] (mset σ 33 6 (w32 ((σ 33 6) + 1)))) (fun r1 s2 => mgo K mx 84 57 [(28, 33), (21, (x1 : Int)), (0, w32 (v2 + 1))] [] (mset s2 33 7 (if ((mset σ 33 6 (w32 ((σ 33 6) + 1))) 33 7) < r1 then r1 else ((mset σ 33 6 (w32 ((σ 33 6) + 1))) 33 7))))) (mgo K mx 84 57 [(28, 33), (21, (x1 : Int)), (0, w32 (v2 + 1))] [] σ))) (mgo K mx 84 57 [(28, 33), (21, (x1 : Int)), (0, w32 (v2 + 1))] [] σ))) (some (0, σ)) := (mgo_blk K mx 84 [16, 57] 999 _ _ _ σ).trans rfl
set_option maxRecDepth 100000 in
/-- EiderClimate$Ways.forgetSteps -/
theorem e_85 (d : Nat)  (σ : mM) : mcall (d + 1) 85 [(28, 33)] σ =
  mgo (mcall d) (mX 85 σ) 85 2 [(28, 33), (0, 0)] [] σ := (mcall_blk d 85 [2] 999 _ σ rfl).trans rfl
set_option maxRecDepth 100000 in
theorem b_85_2 (K : mK) (mx : Int × Int) (v1 : Int) (σ : mM) : mgo K mx 85 2 [(28, 33), (0, v1)] [] σ =
  bLt v1 30 (bIn v1 30 (mgo K mx 85 2 [(28, 33), (0, w32 (v1 + 1))] [] (mset σ 36 v1.toNat (-1)))) (some (0, σ)) := (mgo_blk K mx 85 [2] 999 _ _ _ σ).trans rfl
set_option maxRecDepth 100000 in
/-- EiderClimate$Ways.spread -/
theorem e_86 (d : Nat) (x1 : Int) (σ : mM) : mcall (d + 1) 86 [(28, 33), (0, x1)] σ =
  bIn 0 30 (bIn x1 30 (mgo (mcall d) (mX 86 σ) 86 18 [(28, 33), (0, x1), (0, 1), (0, 0), (2, 0), (2, 0), (2, 0)] [] (mset (mset σ 37 0 x1) 36 x1.toNat 0))) := (mcall_blk d 86 [18, 34] 999 _ σ rfl).trans rfl
set_option maxRecDepth 100000 in
theorem b_86_18 (K : mK) (mx : Int × Int) (v1 : Int) (v2 : Int) (v3 : Int) (v4 : Int) (v5 : Int) (v6 : Int) (σ : mM) : mgo K mx 86 18 [(28, 33), (0, v1), (0, v2), (0, v3), (0, v4), (0, v5), (0, v6)] [] σ =
  bLt v3 v2 (bIn v3 30 (mgo K mx 86 34 [(28, 33), (0, v1), (0, v2), (0, v3), (0, σ 37 v3.toNat), (0, 0), (0, v6)] [] σ)) (some (v2, σ)) := (mgo_blk K mx 86 [18, 34] 999 _ _ _ σ).trans rfl
set_option maxRecDepth 100000 in
theorem b_86_18a (K : mK) (mx : Int × Int) (v1 : Int) (v2 : Int) (v3 : Int) (v4 : Int) (v5 : Int) (σ : mM) : mgo K mx 86 18 [(28, 33), (0, v1), (0, v2), (0, v3), (0, v4), (0, v5), (2, 0)] [] σ =
  bLt v3 v2 (bIn v3 30 (mgo K mx 86 34 [(28, 33), (0, v1), (0, v2), (0, v3), (0, σ 37 v3.toNat), (0, 0), (2, 0)] [] σ)) (some (v2, σ)) := (mgo_blk K mx 86 [18, 34] 999 _ _ _ σ).trans rfl
set_option maxRecDepth 100000 in
theorem b_86_18b (K : mK) (mx : Int × Int) (v1 : Int) (v2 : Int) (v3 : Int) (σ : mM) : mgo K mx 86 18 [(28, 33), (0, v1), (0, v2), (0, v3), (2, 0), (2, 0), (2, 0)] [] σ =
  bLt v3 v2 (bIn v3 30 (mgo K mx 86 34 [(28, 33), (0, v1), (0, v2), (0, v3), (0, σ 37 v3.toNat), (0, 0), (2, 0)] [] σ)) (some (v2, σ)) := (mgo_blk K mx 86 [18, 34] 999 _ _ _ σ).trans rfl
set_option maxRecDepth 100000 in
theorem b_86_34 (K : mK) (mx : Int × Int) (v1 : Int) (v2 : Int) (v3 : Int) (v4 : Int) (v5 : Int) (v6 : Int) (σ : mM) : mgo K mx 86 34 [(28, 33), (0, v1), (0, v2), (0, v3), (0, v4), (0, v5), (0, v6)] [] σ =
  bLt v5 4 (bK (K 11 [(0, v4), (0, v5)] σ) (fun r1 s2 => bLt r1 0 (mgo K mx 86 34 [(28, 33), (0, v1), (0, v2), (0, v3), (0, v4), (0, w32 (v5 + 1)), (0, r1)] [] s2) (bIn r1 30 (bLt (s2 36 r1.toNat) 0 (bIn r1 30 (bIn v1 30 (bEq (s2 35 r1.toNat) (s2 35 v1.toNat) (bLt v2 30 (bIn v4 30 (bIn r1 30 (bIn v2 30 (mgo K mx 86 34 [(28, 33), (0, v1), (0, w32 (v2 + 1)), (0, v3), (0, v4), (0, w32 (v5 + 1)), (0, r1)] [] (mset (mset s2 36 r1.toNat (w32 ((s2 36 v4.toNat) + 1))) 37 v2.toNat r1))))) (mgo K mx 86 34 [(28, 33), (0, v1), (0, v2), (0, v3), (0, v4), (0, w32 (v5 + 1)), (0, r1)] [] s2)) (mgo K mx 86 34 [(28, 33), (0, v1), (0, v2), (0, v3), (0, v4), (0, w32 (v5 + 1)), (0, r1)] [] s2)))) (mgo K mx 86 34 [(28, 33), (0, v1), (0, v2), (0, v3), (0, v4), (0, w32 (v5 + 1)), (0, r1)] [] s2))))) (mgo K mx 86 18 [(28, 33), (0, v1), (0, v2), (0, w32 (v3 + 1)), (0, v4), (0, v5), (0, v6)] [] σ) := (mgo_blk K mx 86 [18, 34] 999 _ _ _ σ).trans rfl
set_option maxRecDepth 100000 in
theorem b_86_34a (K : mK) (mx : Int × Int) (v1 : Int) (v2 : Int) (v3 : Int) (v4 : Int) (v5 : Int) (σ : mM) : mgo K mx 86 34 [(28, 33), (0, v1), (0, v2), (0, v3), (0, v4), (0, v5), (2, 0)] [] σ =
  bLt v5 4 (bK (K 11 [(0, v4), (0, v5)] σ) (fun r1 s2 => bLt r1 0 (mgo K mx 86 34 [(28, 33), (0, v1), (0, v2), (0, v3), (0, v4), (0, w32 (v5 + 1)), (0, r1)] [] s2) (bIn r1 30 (bLt (s2 36 r1.toNat) 0 (bIn r1 30 (bIn v1 30 (bEq (s2 35 r1.toNat) (s2 35 v1.toNat) (bLt v2 30 (bIn v4 30 (bIn r1 30 (bIn v2 30 (mgo K mx 86 34 [(28, 33), (0, v1), (0, w32 (v2 + 1)), (0, v3), (0, v4), (0, w32 (v5 + 1)), (0, r1)] [] (mset (mset s2 36 r1.toNat (w32 ((s2 36 v4.toNat) + 1))) 37 v2.toNat r1))))) (mgo K mx 86 34 [(28, 33), (0, v1), (0, v2), (0, v3), (0, v4), (0, w32 (v5 + 1)), (0, r1)] [] s2)) (mgo K mx 86 34 [(28, 33), (0, v1), (0, v2), (0, v3), (0, v4), (0, w32 (v5 + 1)), (0, r1)] [] s2)))) (mgo K mx 86 34 [(28, 33), (0, v1), (0, v2), (0, v3), (0, v4), (0, w32 (v5 + 1)), (0, r1)] [] s2))))) (mgo K mx 86 18 [(28, 33), (0, v1), (0, v2), (0, w32 (v3 + 1)), (0, v4), (0, v5), (2, 0)] [] σ) := (mgo_blk K mx 86 [18, 34] 999 _ _ _ σ).trans rfl
