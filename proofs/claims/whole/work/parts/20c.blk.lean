set_option maxRecDepth 100000 in
/-- EiderClimate.house -/
theorem e_88 (d : Nat) (x1 : Int) (x2 : Int) (σ : mM) : mcall (d + 1) 88 [(29, 0), (0, x1), (0, x2)] σ =
  bIn 3 8 (bK ((mcall d) 126 [(0, x1), (0, σ 900 3)] σ) (fun r1 s2 => bEq r1 0 (some (-1, s2)) (bIn 4 8 (bK ((mcall d) 126 [(0, x2), (0, s2 900 4)] s2) (fun r3 s4 => bEq r3 0 (some (-1, s4)) (bK ((mcall d) 39 [(24, 1), (0, x1), (0, x2), (0, 4095)] s4) (fun r5 s6 => some (r5, s6)))))))) := (mcall_blk d 88 [] 999 _ σ rfl).trans rfl
set_option maxRecDepth 100000 in
/-- EiderClimate.houses -/
theorem e_89 (d : Nat) (x1 : Int) (x2 : Int) (x3 : Int) (σ : mM) : mcall (d + 1) 89 [(29, 0), (0, x1), (0, x2), (0, x3)] σ =
  bK ((mcall d) 128 [(0, x1)] σ) (fun r1 s2 => bEq r1 0 (some (-1, s2)) (bLt x3 1 (some (-1, s2)) (bLt 8 x3 (some (-1, s2)) (bIn x1 6 (bEq (s2 ((46 + 1 + 2 * x1)).toNat 1) (-2) (mgo (mcall d) (mX 89 σ) 89 53 [(29, 0), (0, x1), (0, x2), (0, x3), (23, (46 + 1 + 2 * x1)), (0, 0)] [] s2) (bEq (s2 ((46 + 1 + 2 * x1)).toNat 1) 1 (mgo (mcall d) (mX 89 σ) 89 53 [(29, 0), (0, x1), (0, x2), (0, x3), (23, (46 + 1 + 2 * x1)), (0, 0)] [] s2) (some (-12, s2)))))))) := (mcall_blk d 89 [53] 999 _ σ rfl).trans rfl
set_option maxRecDepth 100000 in
theorem b_89_53 (K : mK) (mx : Int × Int) (v1 : Int) (v2 : Int) (v3 : Int) (w4 : Nat) (v5 : Int) (σ : mM) : mgo K mx 89 53 [(29, 0), (0, v1), (0, v2), (0, v3), (23, (w4 : Int)), (0, v5)] [] σ =
  bLt v5 v3 (bK (K 129 [(29, 0), (23, (w4 : Int)), (0, v2), (0, v5)] σ) (fun r1 s2 => bEq r1 0 (some (v5, s2)) (mgo K mx 89 53 [(29, 0), (0, v1), (0, v2), (0, v3), (23, (w4 : Int)), (0, w32 (v5 + 1))] [] s2))) (some (v5, σ)) := (mgo_blk K mx 89 [53] 999 _ _ _ σ).trans rfl
set_option maxRecDepth 100000 in
/-- EiderClimate.mend -/
theorem e_90 (d : Nat) (x1 : Int) (x2 : Int) (x3 : Int) (σ : mM) : mcall (d + 1) 90 [(29, 0), (0, x1), (0, x2), (0, x3)] σ =
  bK ((mcall d) 40 [(24, 1), (0, x1), (0, x2)] σ) (fun r1 s2 => bEq r1 0 (some (-1, s2)) (bIn x2 8 (bK ((mcall d) 126 [(0, x3), (0, s2 900 x2.toNat)] s2) (fun r3 s4 => bEq r3 0 (some (-1, s4)) (bK ((mcall d) 41 [(24, 1), (0, x1), (0, x2)] s4) (fun r5 s6 => bEq r5 x3 (some (r5, s6)) (bK ((mcall d) 42 [(24, 1), (0, x1), (0, x2), (0, x3)] s6) (fun _ s8 => bK ((mcall d) 1 [(20, 38), (0, x1), (0, x2), (0, r5), (0, x3)] s8) (fun _ s10 => some (r5, s10)))))))))) := (mcall_blk d 90 [] 999 _ σ rfl).trans rfl
set_option maxRecDepth 100000 in
/-- EiderClimate.of -/
theorem e_91 (d : Nat) (x1 : Int) (x2 : Int) (σ : mM) : mcall (d + 1) 91 [(29, 0), (0, x1), (0, x2)] σ =
  bK ((mcall d) 40 [(24, 1), (0, x1), (0, x2)] σ) (fun r1 s2 => bEq r1 0 (some (-1, s2)) (bK ((mcall d) 41 [(24, 1), (0, x1), (0, x2)] s2) (fun r3 s4 => some (r3, s4)))) := (mcall_blk d 91 [] 999 _ σ rfl).trans rfl
set_option maxRecDepth 100000 in
/-- EiderClimate.feed -/
theorem e_92 (d : Nat) (x1 : Int) (σ : mM) : mcall (d + 1) 92 [(29, 0), (0, x1)] σ =
  bK ((mcall d) 126 [(0, x1), (0, 255)] σ) (fun r1 s2 => bEq r1 0 (some (-1, s2)) (bK ((mcall d) 55 [(26, 24), (0, x1)] s2) (fun r3 s4 => bEq r3 0 (some (-3, s4)) (some (s4 24 1, s4))))) := (mcall_blk d 92 [] 999 _ σ rfl).trans rfl
set_option maxRecDepth 100000 in
/-- EiderClimate.law -/
theorem e_93 (d : Nat)  (σ : mM) : mcall (d + 1) 93 [(29, 0)] σ =
  bLt (σ 1 7) 0 none (bK ((mcall d) 56 [(26, 24), (22, σ 1 7)] σ) (fun r1 s2 => bLt r1 0 (bK ((mcall d) 37 [(24, 1)] (mset s2 24 1 0)) (fun _ s4 => some (1, s4))) (some (w32 ((-100) - r1), mset s2 24 1 0)))) := (mcall_blk d 93 [] 999 _ σ rfl).trans rfl
set_option maxRecDepth 100000 in
/-- EiderClimate.later -/
theorem e_94 (d : Nat) (x1 : Int) (x2 : Int) (x3 : Int) (σ : mM) : mcall (d + 1) 94 [(29, 0), (0, x1), (0, x2), (0, x3)] σ =
  bK ((mcall d) 126 [(0, x1), (0, 48)] σ) (fun r1 s2 => bEq r1 0 (some (-1, s2)) (bK ((mcall d) 127 [(0, x2)] s2) (fun r3 s4 => bEq r3 0 (some (-1, s4)) (bK ((mcall d) 126 [(0, x3), (0, 3)] s4) (fun r5 s6 => bEq r5 0 (some (-1, s6)) (bK ((mcall d) 67 [(27, 26), (0, x1)] s6) (fun r7 s8 => bEq x3 0 (bLt (s8 1 6) 0 none (bK ((mcall d) 25 [(22, s8 1 6), (21, r7), (0, x2)] s8) (fun r9 s10 => some (r9, s10)))) (bK ((mcall d) 7 [(21, r7), (0, x2), (0, w32 (x3 - 1))] s8) (fun r11 s12 => some (r11, s12)))))))))) := (mcall_blk d 94 [] 999 _ σ rfl).trans rfl
set_option maxRecDepth 100000 in
/-- EiderClimate.cold -/
theorem e_95 (d : Nat) (x1 : Int) (x2 : Int) (σ : mM) : mcall (d + 1) 95 [(29, 0), (0, x1), (0, x2)] σ =
  bK ((mcall d) 126 [(0, x1), (0, 48)] σ) (fun r1 s2 => bEq r1 0 (some (-1, s2)) (bK ((mcall d) 126 [(0, x2), (0, 1)] s2) (fun r3 s4 => bEq r3 0 (some (-1, s4)) (bK ((mcall d) 67 [(27, 26), (0, x1)] s4) (fun r5 s6 => bEq x2 0 (bK ((mcall d) 44 [(24, 1), (21, r5)] s6) (fun r7 s8 => some (r7, s8))) (bK ((mcall d) 45 [(24, 1), (21, r5)] s6) (fun r9 s10 => some (r9, s10)))))))) := (mcall_blk d 95 [] 999 _ σ rfl).trans rfl
set_option maxRecDepth 100000 in
/-- EiderClimate.first -/
theorem e_96 (d : Nat) (x1 : Int) (σ : mM) : mcall (d + 1) 96 [(29, 0), (0, x1)] σ =
  bK ((mcall d) 38 [(24, 1), (0, x1)] σ) (fun r1 s2 => bEq r1 0 (some (-1, s2)) (bK ((mcall d) 68 [(27, 26), (0, x1)] s2) (fun r3 s4 => some (r3, s4)))) := (mcall_blk d 96 [] 999 _ σ rfl).trans rfl
set_option maxRecDepth 100000 in
/-- EiderClimate.often -/
theorem e_97 (d : Nat) (x1 : Int) (x2 : Int) (σ : mM) : mcall (d + 1) 97 [(29, 0), (0, x1), (0, x2)] σ =
  bK ((mcall d) 38 [(24, 1), (0, x1)] σ) (fun r1 s2 => bEq r1 0 (some (-1, s2)) (bK ((mcall d) 126 [(0, x2), (0, 48)] s2) (fun r3 s4 => bEq r3 0 (some (-1, s4)) (bK ((mcall d) 69 [(27, 26), (0, x1), (0, x2)] s4) (fun r5 s6 => some (r5, s6)))))) := (mcall_blk d 97 [] 999 _ σ rfl).trans rfl
set_option maxRecDepth 100000 in
/-- EiderClimate.pulls -/
theorem e_98 (d : Nat) (x1 : Int) (x2 : Int) (σ : mM) : mcall (d + 1) 98 [(29, 0), (0, x1), (0, x2)] σ =
  bK ((mcall d) 38 [(24, 1), (0, x1)] σ) (fun r1 s2 => bEq r1 0 (some (-1, s2)) (bLt x2 (-1) (some (-1, s2)) (bK ((mcall d) 70 [(27, 26), (0, x1)] s2) (fun r3 s4 => bLt x2 0 (some (r3, s4)) (bLt r3 0 (some (r3, s4)) (bLt x2 r3 (bIn x2 3 (some (s4 32 x2.toNat, s4))) (some (-2, s4)))))))) := (mcall_blk d 98 [] 999 _ σ rfl).trans rfl
set_option maxRecDepth 100000 in
/-- EiderClimate.shakes -/
theorem e_99 (d : Nat) (x1 : Int) (σ : mM) : mcall (d + 1) 99 [(29, 0), (0, x1)] σ =
  bK ((mcall d) 126 [(0, x1), (0, 1)] σ) (fun r1 s2 => bEq r1 0 (some (-1, s2)) (bK ((mcall d) 72 [(27, 26)] s2) (fun _ s4 => bEq x1 0 (some (s4 26 3, s4)) (some (s4 26 4, s4))))) := (mcall_blk d 99 [] 999 _ σ rfl).trans rfl
set_option maxRecDepth 100000 in
/-- EiderClimate.stuffs -/
theorem e_100 (d : Nat) (x1 : Int) (x2 : Int) (σ : mM) : mcall (d + 1) 100 [(29, 0), (0, x1), (0, x2)] σ =
  bK ((mcall d) 126 [(0, x1), (0, 2)] σ) (fun r1 s2 => bEq r1 0 (some (-1, s2)) (bK ((mcall d) 126 [(0, x2), (0, 1)] s2) (fun r3 s4 => bEq r3 0 (some (-1, s4)) (bK ((mcall d) 73 [(27, 26), (0, x1)] s4) (fun _ s6 => bEq x2 0 (some (s6 26 4, s6)) (some (s6 26 3, s6))))))) := (mcall_blk d 100 [] 999 _ σ rfl).trans rfl
set_option maxRecDepth 100000 in
/-- EiderClimate.judge -/
theorem e_101 (d : Nat) (x1 : Int) (σ : mM) : mcall (d + 1) 101 [(29, 0), (0, x1)] σ =
  bK ((mcall d) 130 [(29, 0), (0, x1)] σ) (fun r1 s2 => bLt r1 0 (some (r1, s2)) (bEq 100 0 none (bIn (w32 (Int.tdiv x1 100)) 6 (bEq 100 0 none (bK ((mcall d) 75 [(27, 26), (23, (46 + 1 + 2 * (w32 (Int.tdiv x1 100)))), (0, Int.tmod x1 100)] s2) (fun r3 s4 => some (r3, s4))))))) := (mcall_blk d 101 [] 999 _ σ rfl).trans rfl
set_option maxRecDepth 100000 in
/-- EiderClimate.felt -/
theorem e_102 (d : Nat) (x1 : Int) (x2 : Int) (x3 : Int) (σ : mM) : mcall (d + 1) 102 [(29, 0), (0, x1), (0, x2), (0, x3)] σ =
  bK ((mcall d) 127 [(0, x2)] σ) (fun r1 s2 => bEq r1 0 (some (-1, s2)) (bK ((mcall d) 126 [(0, x3), (0, 4)] s2) (fun r3 s4 => bEq r3 0 (some (-1, s4)) (bK ((mcall d) 130 [(29, 0), (0, x1)] s4) (fun r5 s6 => bLt r5 0 (some (r5, s6)) (bEq 100 0 none (bIn (w32 (Int.tdiv x1 100)) 6 (bEq 100 0 none (bEq 2 0 none (bK ((mcall d) 77 [(27, 26), (23, (46 + 1 + 2 * (w32 (Int.tdiv x1 100)))), (0, Int.tmod x1 100), (0, x2), (0, w32 (Int.tdiv (w32 (x3 + 1)) 2))] s6) (fun r7 s8 => bEq x3 0 (some (r7, s8)) (bEq 2 0 none (bEq (Int.tmod x3 2) 1 (bK ((mcall d) 228 [(0, r7)] s8) (fun r9 s10 => some (r9, s10))) (bEq r7 0 (some (-2, s8)) (bK ((mcall d) 227 [(0, r7)] s8) (fun r11 s12 => some (r11, s12))))))))))))))))) := (mcall_blk d 102 [] 999 _ σ rfl).trans rfl
set_option maxRecDepth 100000 in
/-- EiderClimate.walk -/
theorem e_103 (d : Nat) (x1 : Int) (x2 : Int) (σ : mM) : mcall (d + 1) 103 [(29, 0), (0, x1), (0, x2)] σ =
  bLt x1 0 (some (-1, σ)) (bEq 100 0 none (bK ((mcall d) 127 [(0, w32 (Int.tdiv x1 100))] σ) (fun r1 s2 => bEq r1 0 (some (-1, s2)) (bEq 100 0 none (bK ((mcall d) 127 [(0, Int.tmod x1 100)] s2) (fun r3 s4 => bEq r3 0 (some (-1, s4)) (bK ((mcall d) 126 [(0, x2), (0, 1)] s4) (fun r5 s6 => bEq r5 0 (some (-1, s6)) (mgo (mcall d) (mX 103 σ) 103 36 [(29, 0), (0, x1), (0, x2), (0, 0)] [] s6))))))))) := (mcall_blk d 103 [36] 999 _ σ rfl).trans rfl
set_option maxRecDepth 100000 in
theorem b_103_36 (K : mK) (mx : Int × Int) (v1 : Int) (v2 : Int) (v3 : Int) (σ : mM) : mgo K mx 103 36 [(29, 0), (0, v1), (0, v2), (0, v3)] [] σ =
  bLt v3 30 (bLt (σ 1 6) 0 none (bK (K 25 [(22, σ 1 6), (21, 2), (0, v3)] σ) (fun r1 s2 => bIn v3 30 (mgo K mx 103 36 [(29, 0), (0, v1), (0, v2), (0, w32 (v3 + 1))] [] (mset s2 34 v3.toNat r1))))) (bEq 100 0 none (bEq 100 0 none (bK (K 83 [(28, 33), (0, w32 (Int.tdiv v1 100)), (0, Int.tmod v1 100)] σ) (fun _ s4 => bEq v2 0 (some (s4 33 4, s4)) (some (s4 33 5, s4)))))) := (mgo_blk K mx 103 [36] 999 _ _ _ σ).trans rfl
set_option maxRecDepth 100000 in
/-- EiderClimate.patches -/
theorem e_104 (d : Nat) (x1 : Int) (σ : mM) : mcall (d + 1) 104 [(29, 0), (0, x1)] σ =
  bK ((mcall d) 126 [(0, x1), (0, 1)] σ) (fun r1 s2 => bEq r1 0 (some (-1, s2)) (bK ((mcall d) 84 [(28, 33), (21, 2)] s2) (fun _ s4 => bEq x1 0 (some (s4 33 6, s4)) (some (s4 33 7, s4))))) := (mcall_blk d 104 [] 999 _ σ rfl).trans rfl
set_option maxRecDepth 100000 in
/-- EiderClimate.byTurns -/
theorem e_105 (d : Nat) (x1 : Int) (x2 : Int) (x3 : Int) (x4 : Int) (σ : mM) : mcall (d + 1) 105 [(29, 0), (0, x1), (0, x2), (0, x3), (0, x4)] σ =
  bLt x1 0 (some (-2000000000, σ)) (bEq 10 0 none (bK ((mcall d) 38 [(24, 1), (0, w32 (Int.tdiv x1 10))] σ) (fun r1 s2 => bEq r1 0 (some (-2000000000, s2)) (bEq 10 0 none (bK ((mcall d) 38 [(24, 1), (0, Int.tmod x1 10)] s2) (fun r3 s4 => bEq r3 0 (some (-2000000000, s4)) (bEq 10 0 none (bEq 10 0 none (bEq (w32 (Int.tdiv x1 10)) (Int.tmod x1 10) (some (-2000000000, s4)) (bLt x2 0 (some (-2000000000, s4)) (bEq 10 0 none (bLt (w32 (Int.tdiv x2 10)) 5 (bEq 10 0 none (bLt (Int.tmod x2 10) 5 (bEq 10 0 none (bEq 10 0 none (bEq (w32 (Int.tdiv x2 10)) (Int.tmod x2 10) (some (-2000000000, s4)) (bLt x3 1 (some (-2000000000, s4)) (bLt 4 x3 (some (-2000000000, s4)) (bK ((mcall d) 126 [(0, x4), (0, 1)] s4) (fun r5 s6 => bEq r5 0 (some (-2000000000, s6)) (bK ((mcall d) 78 [(27, 26), (0, x1), (0, x2), (0, x3)] s6) (fun r7 s8 => bEq x4 0 (some (r7, s8)) (some (s8 26 9, s8))))))))))) (some (-2000000000, s4)))) (some (-2000000000, s4)))))))))))))) := (mcall_blk d 105 [] 999 _ σ rfl).trans rfl
set_option maxRecDepth 100000 in
/-- EiderClimate.drawn -/
theorem e_106 (d : Nat) (x1 : Int) (x2 : Int) (x3 : Int) (σ : mM) : mcall (d + 1) 106 [(29, 0), (0, x1), (0, x2), (0, x3)] σ =
  bLt x2 0 (some (-1, σ)) (bEq x3 (-1) (bEq 100 0 none (bEq 100 0 none (bLt (w32 (Int.tdiv x2 100)) 1 (some (-1, σ)) (bLt 30 (w32 (Int.tdiv x2 100)) (some (-1, σ)) (bLt (Int.tmod x2 100) 1 (some (-1, σ)) (bLt 24 (Int.tmod x2 100) (some (-1, σ)) (bK ((mcall d) 80 [(27, 26), (0, x1), (0, w32 (Int.tdiv x2 100)), (0, Int.tmod x2 100), (0, x3)] σ) (fun r1 s2 => some (r1, s2))))))))) (bK ((mcall d) 38 [(24, 1), (0, x3)] σ) (fun r3 s4 => bEq r3 0 (some (-1, s4)) (bEq 100 0 none (bEq 100 0 none (bLt (w32 (Int.tdiv x2 100)) 1 (some (-1, s4)) (bLt 30 (w32 (Int.tdiv x2 100)) (some (-1, s4)) (bLt (Int.tmod x2 100) 1 (some (-1, s4)) (bLt 24 (Int.tmod x2 100) (some (-1, s4)) (bK ((mcall d) 80 [(27, 26), (0, x1), (0, w32 (Int.tdiv x2 100)), (0, Int.tmod x2 100), (0, x3)] s4) (fun r5 s6 => some (r5, s6)))))))))))) := (mcall_blk d 106 [] 999 _ σ rfl).trans rfl
set_option maxRecDepth 100000 in
/-- EiderClimate.month -/
theorem e_107 (d : Nat)  (σ : mM) : mcall (d + 1) 107 [(29, 0)] σ =
  bK ((mcall d) 44 [(24, 1), (21, 2)] σ) (fun r1 s2 => bK ((mcall d) 228 [(0, r1)] s2) (fun r3 s4 => bIn 4 5 (bIn 4 5 (bK ((mcall d) 14 [(21, 2), (0, (mset s4 6 4 (w32 ((s4 6 4) + r3))) 1 5)] (mset s4 6 4 (w32 ((s4 6 4) + r3)))) (fun _ s6 => some (r3, s6)))))) := (mcall_blk d 107 [] 999 _ σ rfl).trans rfl
set_option maxRecDepth 100000 in
/-- EiderClimate.pull -/
theorem e_108 (d : Nat) (x1 : Int) (σ : mM) : mcall (d + 1) 108 [(29, 0), (0, x1)] σ =
  bK ((mcall d) 126 [(0, x1), (0, 9)] σ) (fun r1 s2 => bEq r1 0 (some (-1, s2)) (bEq 2 0 none (bEq 2 0 none (bK ((mcall d) 17 [(21, 2), (0, w32 (Int.tdiv x1 2)), (0, Int.tmod x1 2)] s2) (fun _ s4 => bIn 1 5 (bIn 1 5 (bIn (w32 ((w32 (Int.tdiv x1 2)) * 6)) 30 (some ((mset s4 6 1 (w32 ((s4 6 1) + 1))) 3 (w32 ((w32 (Int.tdiv x1 2)) * 6)).toNat, mset s4 6 1 (w32 ((s4 6 1) + 1))))))))))) := (mcall_blk d 108 [] 999 _ σ rfl).trans rfl
set_option maxRecDepth 100000 in
/-- EiderClimate.shake -/
theorem e_109 (d : Nat) (x1 : Int) (σ : mM) : mcall (d + 1) 109 [(29, 0), (0, x1)] σ =
  bK ((mcall d) 127 [(0, x1)] σ) (fun r1 s2 => bEq r1 0 (some (-1, s2)) (bK ((mcall d) 12 [(0, x1)] s2) (fun r3 s4 => bEq r3 0 (some (-1, s4)) (bK ((mcall d) 19 [(21, 2), (0, x1)] s4) (fun _ s6 => bIn 2 5 (bIn 2 5 (bIn x1 30 (some ((mset s6 6 2 (w32 ((s6 6 2) + 1))) 4 x1.toNat, mset s6 6 2 (w32 ((s6 6 2) + 1))))))))))) := (mcall_blk d 109 [] 999 _ σ rfl).trans rfl
set_option maxRecDepth 100000 in
/-- EiderClimate.stuff -/
theorem e_110 (d : Nat) (x1 : Int) (x2 : Int) (σ : mM) : mcall (d + 1) 110 [(29, 0), (0, x1), (0, x2)] σ =
  bK ((mcall d) 127 [(0, x1)] σ) (fun r1 s2 => bEq r1 0 (some (-1, s2)) (bLt x2 0 (some (-1, s2)) (bEq 10 0 none (bEq 10 0 none (bLt (w32 (Int.tdiv x2 10)) 1 (some (-1, s2)) (bIn 0 8 (bLt (s2 900 0) (w32 (Int.tdiv x2 10)) (some (-1, s2)) (bLt (Int.tmod x2 10) 1 (some (-1, s2)) (bIn x1 30 (bK ((mcall d) 9 [(21, 2), (0, x1), (0, w32 (Int.tdiv x2 10)), (0, Int.tmod x2 10), (0, 0)] s2) (fun _ s4 => bIn 3 5 (bIn 3 5 (some (s2 3 x1.toNat, mset s4 6 3 (w32 ((s4 6 3) + 1)))))))))))))))) := (mcall_blk d 110 [] 999 _ σ rfl).trans rfl
set_option maxRecDepth 100000 in
/-- EiderClimate.led -/
theorem e_111 (d : Nat) (x1 : Int) (σ : mM) : mcall (d + 1) 111 [(29, 0), (0, x1)] σ =
  bK ((mcall d) 126 [(0, x1), (0, 4)] σ) (fun r1 s2 => bEq r1 0 (some (-1, s2)) (bIn x1 5 (some (s2 6 x1.toNat, s2)))) := (mcall_blk d 111 [] 999 _ σ rfl).trans rfl
set_option maxRecDepth 100000 in
/-- EiderClimate.image -/
theorem e_112 (d : Nat)  (σ : mM) : mcall (d + 1) 112 [(29, 0)] σ =
  bK ((mcall d) 6 [(21, 59), (21, 2)] σ) (fun _ s2 => bIn 1 2 (bIn 0 5 (some ((mset s2 0 8 1) 6 0, mset s2 0 8 1)))) := (mcall_blk d 112 [] 999 _ σ rfl).trans rfl
set_option maxRecDepth 100000 in
/-- EiderClimate.back -/
theorem e_113 (d : Nat)  (σ : mM) : mcall (d + 1) 113 [(29, 0)] σ =
  bEq (σ 0 8) 0 (some (-5, σ)) (bK ((mcall d) 6 [(21, 2), (21, 59)] σ) (fun _ s2 => bIn 0 5 (some (s2 6 0, s2)))) := (mcall_blk d 113 [] 999 _ σ rfl).trans rfl
set_option maxRecDepth 100000 in
/-- EiderClimate.undo -/
theorem e_114 (d : Nat)  (σ : mM) : mcall (d + 1) 114 [(29, 0)] σ =
  bEq (σ 38 4) 0 (some (-5, σ)) (bK ((mcall d) 3 [(20, 38), (24, 1)] σ) (fun _ s2 => some (s2 38 4, s2))) := (mcall_blk d 114 [] 999 _ σ rfl).trans rfl
set_option maxRecDepth 100000 in
/-- EiderClimate.redo -/
theorem e_115 (d : Nat)  (σ : mM) : mcall (d + 1) 115 [(29, 0)] σ =
  bEq (σ 38 5) 0 (some (-5, σ)) (bK ((mcall d) 4 [(20, 38), (24, 1)] σ) (fun _ s2 => some (s2 38 5, s2))) := (mcall_blk d 115 [] 999 _ σ rfl).trans rfl
set_option maxRecDepth 100000 in
/-- EiderClimate.body -/
theorem e_116 (d : Nat) (x1 : Int) (σ : mM) : mcall (d + 1) 116 [(29, 0), (0, x1)] σ =
  bK ((mcall d) 47 [(0, x1)] σ) (fun r1 s2 => bEq r1 0 (some (-1, s2)) (bK ((mcall d) 49 [(25, 43), (0, x1)] s2) (fun r3 s4 => some (r3, s4)))) := (mcall_blk d 116 [] 999 _ σ rfl).trans rfl
set_option maxRecDepth 100000 in
/-- EiderClimate.act -/
theorem e_117 (d : Nat) (x1 : Int) (x2 : Int) (x3 : Int) (σ : mM) : mcall (d + 1) 117 [(29, 0), (0, x1), (0, x2), (0, x3)] σ =
  bK ((mcall d) 51 [(25, 43), (0, x1), (0, x2), (0, x3)] σ) (fun r1 s2 => some (r1, s2)) := (mcall_blk d 117 [] 999 _ σ rfl).trans rfl
set_option maxRecDepth 100000 in
/-- EiderClimate.trace -/
theorem e_118 (d : Nat) (x1 : Int) (σ : mM) : mcall (d + 1) 118 [(29, 0), (0, x1)] σ =
  bLt x1 0 (some (-1, σ)) (bLt x1 (σ 43 3) (bLt x1 24 (bIn x1 24 (some (σ 45 x1.toNat, σ))) (some (-1, σ))) (some (-1, σ))) := (mcall_blk d 118 [] 999 _ σ rfl).trans rfl
set_option maxRecDepth 100000 in
/-- EiderClimate.keep -/
theorem e_119 (d : Nat) (x1 : Int) (x2 : Int) (σ : mM) : mcall (d + 1) 119 [(29, 0), (0, x1), (0, x2)] σ =
  bK ((mcall d) 128 [(0, x1)] σ) (fun r1 s2 => bEq r1 0 (some (-1, s2)) (bEq x2 (-1) (bIn x1 6 (bK ((mcall d) 31 [(23, (46 + 1 + 2 * x1)), (0, x2)] s2) (fun _ s4 => some (1, s4)))) (bK ((mcall d) 48 [(25, 43), (0, x2)] s2) (fun r5 s6 => bEq r5 0 (some (-1, s6)) (bIn x1 6 (bK ((mcall d) 31 [(23, (46 + 1 + 2 * x1)), (0, x2)] s6) (fun _ s8 => some (1, s8)))))))) := (mcall_blk d 119 [] 999 _ σ rfl).trans rfl
set_option maxRecDepth 100000 in
/-- EiderClimate.row -/
theorem e_120 (d : Nat) (x1 : Int) (x2 : Int) (x3 : Int) (σ : mM) : mcall (d + 1) 120 [(29, 0), (0, x1), (0, x2), (0, x3)] σ =
  bK ((mcall d) 128 [(0, x1)] σ) (fun r1 s2 => bEq r1 0 (some (-1, s2)) (bK ((mcall d) 126 [(0, x2), (0, 4)] s2) (fun r3 s4 => bEq r3 0 (some (-1, s4)) (bLt 60 x3 (some (-1, s4)) (bLt x3 0 (some (-14, s4)) (bIn x1 6 (bK ((mcall d) 32 [(23, (46 + 1 + 2 * x1)), (0, x2), (0, x3)] s4) (fun _ s6 => some (1, s6))))))))) := (mcall_blk d 120 [] 999 _ σ rfl).trans rfl
set_option maxRecDepth 100000 in
/-- EiderClimate.put -/
theorem e_121 (d : Nat) (x1 : Int) (x2 : Int) (x3 : Int) (σ : mM) : mcall (d + 1) 121 [(29, 0), (0, x1), (0, x2), (1, x3)] σ =
  bK ((mcall d) 131 [(29, 0), (0, x1), (0, x2)] σ) (fun r1 s2 => bLt r1 0 (some (r1, s2)) (bIn x1 6 (bIn x1 6 (bK ((mcall d) 35 [(0, s2 ((46 + 1 + 2 * x1)).toNat 1), (1, x3)] s2) (fun r3 s4 => bIn x2 60 (some (1, mset s4 (((46 + 1 + 2 * x1) + 1)).toNat x2.toNat r3))))))) := (mcall_blk d 121 [] 999 _ σ rfl).trans rfl
set_option maxRecDepth 100000 in
/-- EiderClimate.element -/
theorem e_122 (d : Nat) (x1 : Int) (x2 : Int) (σ : mM) : mcall (d + 1) 122 [(29, 0), (0, x1), (0, x2)] σ =
  bK ((mcall d) 131 [(29, 0), (0, x1), (0, x2)] σ) (fun r1 s2 => bLt r1 0 (some (-9223372036854775808, s2)) (bIn x1 6 (bIn x2 60 (some (s2 (((46 + 1 + 2 * x1) + 1)).toNat x2.toNat, s2))))) := (mcall_blk d 122 [] 999 _ σ rfl).trans rfl
set_option maxRecDepth 100000 in
/-- EiderClimate.shift -/
theorem e_123 (d : Nat) (x1 : Int) (x2 : Int) (x3 : Int) (x4 : Int) (x5 : Int) (σ : mM) : mcall (d + 1) 123 [(29, 0), (0, x1), (0, x2), (0, x3), (0, x4), (0, x5)] σ =
  bK ((mcall d) 128 [(0, x1)] σ) (fun r1 s2 => bEq r1 0 (some (-1, s2)) (bK ((mcall d) 128 [(0, x3)] s2) (fun r3 s4 => bEq r3 0 (some (-1, s4)) (bIn x1 6 (bIn x3 6 (bEq (s4 ((46 + 1 + 2 * x1)).toNat 1) (-2) (some (-11, s4)) (bEq (s4 ((46 + 1 + 2 * x3)).toNat 1) (-2) (some (-11, s4)) (bK ((mcall d) 33 [(23, (46 + 1 + 2 * x1))] s4) (fun r5 s6 => bEq r5 0 (some (-12, s6)) (bEq (s6 ((46 + 1 + 2 * x1)).toNat 1) (s6 ((46 + 1 + 2 * x3)).toNat 1) (bK ((mcall d) 34 [(23, (46 + 1 + 2 * x1)), (0, x2), (0, x5)] s6) (fun r7 s8 => bEq r7 0 (some (-13, s8)) (bK ((mcall d) 34 [(23, (46 + 1 + 2 * x3)), (0, x4), (0, x5)] s8) (fun r9 s10 => bEq r9 0 (some (-13, s10)) (bCp x2 x4 x5 60 60 (some (x5, mcopy s10 (((46 + 1 + 2 * x1) + 1)).toNat (((46 + 1 + 2 * x3) + 1)).toNat x2.toNat x4.toNat x5.toNat))))))) (some (-12, s6)))))))))))) := (mcall_blk d 123 [] 999 _ σ rfl).trans rfl
set_option maxRecDepth 100000 in
/-- EiderClimate.taken -/
theorem e_124 (d : Nat) (x1 : Int) (x2 : Int) (σ : mM) : mcall (d + 1) 124 [(29, 0), (0, x1), (0, x2)] σ =
  bK ((mcall d) 128 [(0, x1)] σ) (fun r1 s2 => bEq r1 0 (some (-1, s2)) (bK ((mcall d) 47 [(0, x2)] s2) (fun r3 s4 => bEq r3 0 (some (-1, s4)) (bIn x1 6 (bEq (s4 ((46 + 1 + 2 * x1)).toNat 1) (-2) (some (-11, s4)) (bEq (s4 ((46 + 1 + 2 * x1)).toNat 1) (-1) (bK ((mcall d) 50 [(25, 43), (0, s4 ((46 + 1 + 2 * x1)).toNat 3), (0, x2)] s4) (fun r5 s6 => bEq r5 0 (some (-12, s6)) (bIn (s6 ((46 + 1 + 2 * x1)).toNat 3) 50 (some (s6 44 (s6 ((46 + 1 + 2 * x1)).toNat 3).toNat, s6))))) (some (-12, s4)))))))) := (mcall_blk d 124 [] 999 _ σ rfl).trans rfl
set_option maxRecDepth 100000 in
/-- EiderClimate.count -/
theorem e_125 (d : Nat) (x1 : Int) (σ : mM) : mcall (d + 1) 125 [(29, 0), (0, x1)] σ =
  bEq x1 0 (some (σ 1 4, σ)) (bEq x1 1 (bK ((mcall d) 10 [(21, 2)] σ) (fun r1 s2 => some (r1, s2))) (bEq x1 2 (some (σ 24 1, σ)) (bEq x1 3 (some (σ 38 4, σ)) (bEq x1 4 (some (σ 43 1, σ)) (bEq x1 5 (some (σ 43 3, σ)) (some (-1, σ))))))) := (mcall_blk d 125 [] 999 _ σ rfl).trans rfl
set_option maxRecDepth 100000 in
/-- EiderClimate.within -/
theorem e_126 (d : Nat) (x1 : Int) (x2 : Int) (σ : mM) : mcall (d + 1) 126 [(0, x1), (0, x2)] σ =
  bLt x1 0 (bIn 0 2 (some (0, σ))) (bLt x2 x1 (bIn 0 2 (some (0, σ))) (bIn 1 2 (some (1, σ)))) := (mcall_blk d 126 [] 999 _ σ rfl).trans rfl
set_option maxRecDepth 100000 in
/-- EiderClimate.isSquare -/
theorem e_127 (d : Nat) (x1 : Int) (σ : mM) : mcall (d + 1) 127 [(0, x1)] σ =
  bLt x1 0 (bIn 0 2 (some (0, σ))) (bLt x1 30 (bIn 1 2 (some (1, σ))) (bIn 0 2 (some (0, σ)))) := (mcall_blk d 127 [] 999 _ σ rfl).trans rfl
set_option maxRecDepth 100000 in
/-- EiderClimate.isShelf -/
theorem e_128 (d : Nat) (x1 : Int) (σ : mM) : mcall (d + 1) 128 [(0, x1)] σ =
  bLt x1 0 (bIn 0 2 (some (0, σ))) (bLt x1 6 (bIn 1 2 (some (1, σ))) (bIn 0 2 (some (0, σ)))) := (mcall_blk d 128 [] 999 _ σ rfl).trans rfl
set_option maxRecDepth 100000 in
/-- EiderClimate.houseCame -/
theorem e_129 (d : Nat) (x1 : Nat) (x2 : Int) (x3 : Int) (σ : mM) : mcall (d + 1) 129 [(29, 0), (23, (x1 : Int)), (0, x2), (0, x3)] σ =
  bLt x2 0 (bIn 0 2 (some (0, σ))) (bLt x2 (w32 ((w32 ((σ x1 2) - (w32 (3 * x3)))) - 2)) (bEq (σ x1 1) 1 (bIn (w32 (x2 + (w32 (3 * x3)))) 60 (bIn (w32 ((w32 (x2 + (w32 (3 * x3)))) + 1)) 60 (bIn (w32 ((w32 (x2 + (w32 (3 * x3)))) + 2)) 60 (bIn 3 8 (bK ((mcall d) 126 [(0, w32 (σ (x1 + 1) (w32 (x2 + (w32 (3 * x3)))).toNat)), (0, σ 900 3)] σ) (fun r1 s2 => bEq r1 0 (bIn 0 2 (some (0, s2))) (bIn 4 8 (bK ((mcall d) 126 [(0, w32 (σ (x1 + 1) (w32 ((w32 (x2 + (w32 (3 * x3)))) + 1)).toNat)), (0, s2 900 4)] s2) (fun r3 s4 => bEq r3 0 (bIn 0 2 (some (0, s4))) (bIn 5 8 (bK ((mcall d) 126 [(0, w32 (σ (x1 + 1) (w32 ((w32 (x2 + (w32 (3 * x3)))) + 2)).toNat)), (0, s4 900 5)] s4) (fun r5 s6 => bEq r5 0 (bIn 0 2 (some (0, s6))) (bK ((mcall d) 39 [(24, 1), (0, w32 (σ (x1 + 1) (w32 (x2 + (w32 (3 * x3)))).toNat)), (0, w32 (σ (x1 + 1) (w32 ((w32 (x2 + (w32 (3 * x3)))) + 1)).toNat)), (0, w32 (σ (x1 + 1) (w32 ((w32 (x2 + (w32 (3 * x3)))) + 2)).toNat))] s6) (fun r7 s8 => bLt r7 0 (bIn 0 2 (some (0, s8))) (bIn 1 2 (some (1, s8))))))))))))))))) (bIn 0 2 (some (0, σ)))) (bIn 0 2 (some (0, σ)))) := (mcall_blk d 129 [] 999 _ σ rfl).trans rfl
set_option maxRecDepth 100000 in
/-- EiderClimate.refusalOfBytes -/
theorem e_130 (d : Nat) (x1 : Int) (σ : mM) : mcall (d + 1) 130 [(29, 0), (0, x1)] σ =
  bLt x1 0 (some (-1, σ)) (bEq 100 0 none (bK ((mcall d) 128 [(0, w32 (Int.tdiv x1 100))] σ) (fun r1 s2 => bEq r1 0 (some (-1, s2)) (bEq 100 0 none (bK ((mcall d) 127 [(0, Int.tmod x1 100)] s2) (fun r3 s4 => bEq r3 0 (some (-1, s4)) (bEq 100 0 none (bIn (w32 (Int.tdiv x1 100)) 6 (bEq (s4 ((46 + 1 + 2 * (w32 (Int.tdiv x1 100)))).toNat 1) (-2) (some (-11, s4)) (bEq (s4 ((46 + 1 + 2 * (w32 (Int.tdiv x1 100)))).toNat 1) 0 (some (0, s4)) (some (-12, s4)))))))))))) := (mcall_blk d 130 [] 999 _ σ rfl).trans rfl
set_option maxRecDepth 100000 in
/-- EiderClimate.refusalOfElement -/
theorem e_131 (d : Nat) (x1 : Int) (x2 : Int) (σ : mM) : mcall (d + 1) 131 [(29, 0), (0, x1), (0, x2)] σ =
  bK ((mcall d) 128 [(0, x1)] σ) (fun r1 s2 => bEq r1 0 (some (-1, s2)) (bIn x1 6 (bEq (s2 ((46 + 1 + 2 * x1)).toNat 1) (-2) (some (-11, s2)) (bIn x1 6 (bK ((mcall d) 33 [(23, (46 + 1 + 2 * x1))] s2) (fun r3 s4 => bEq r3 0 (some (-12, s4)) (bIn x1 6 (bK ((mcall d) 34 [(23, (46 + 1 + 2 * x1)), (0, x2), (0, 1)] s4) (fun r5 s6 => bEq r5 0 (some (-13, s6)) (some (0, s6))))))))))) := (mcall_blk d 131 [] 999 _ σ rfl).trans rfl
