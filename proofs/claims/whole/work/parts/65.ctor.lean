/-! THE CODE: constructors -/
def nA (t : Nat) (k : Int) (mx : Int × Int) (σ : mM) (f : Int → mM → mA) : mA := if 0 ≤ k ∧ k < 1000 ∧ mlay (mz σ 0) = t + k.toNat ∧ σ 905 0 + 1 ≤ mx.1 ∧ σ 905 1 + k ≤ mx.2 then f (σ 905 0) (mnew σ (t + k.toNat) k.toNat) else none
def nO (c k : Nat) (mx : Int × Int) (σ : mM) (f : Int → mM → mA) : mA := if mlay (mz σ 0) = 20 + c ∧ σ 905 0 + 1 ≤ mx.1 ∧ σ 905 1 + (k : Int) ≤ mx.2 then f (σ 905 0) (mnew σ (20 + c) k) else none
def nC (m : Nat) (mx : Int × Int) (σ τ : mM) (a : mA) : mA := if τ 905 0 = σ 905 0 + (mal m : Int) ∧ τ 905 1 = σ 905 1 + (msl m : Int) ∧ τ 905 0 ≤ mx.1 ∧ τ 905 1 ≤ mx.2 then a else none
set_option maxRecDepth 100000 in
theorem e_0 (d : Nat) (c : Nat) (σ : mM) : mcall (d + 1) 0 [(20, (c : Int))] σ =
  nA 1000 40 ((mX 0 σ)) σ (fun r1 s2 => nA 1000 40 ((mX 0 σ)) (mset s2 c 0 r1) (fun r3 s4 => nA 1000 40 ((mX 0 σ)) (mset s4 c 1 r3) (fun r5 s6 => nA 1000 40 ((mX 0 σ)) (mset s6 c 2 r5) (fun r7 s8 => some (0, mset s8 c 3 r7))))) := (mcall_blk d 0 [] 999 _ σ rfl).trans rfl
set_option maxRecDepth 100000 in
theorem e_5 (d : Nat) (c : Nat) (σ : mM) : mcall (d + 1) 5 [(21, (c : Int))] σ =
  nA 1000 30 ((mX 5 σ)) σ (fun r1 s2 => nA 1000 30 ((mX 5 σ)) (mset s2 c 0 r1) (fun r3 s4 => nA 1000 30 ((mX 5 σ)) (mset s4 c 1 r3) (fun r5 s6 => nA 1000 5 ((mX 5 σ)) (mset s6 c 2 r5) (fun r7 s8 => some (0, mset s8 c 3 r7))))) := (mcall_blk d 5 [] 999 _ σ rfl).trans rfl
set_option maxRecDepth 100000 in
theorem e_21 (d : Nat) (c : Nat) (σ : mM) : mcall (d + 1) 21 [(22, (c : Int))] σ =
  nA 1000 120 ((mX 21 σ)) σ (fun r1 s2 => nA 1000 120 ((mX 21 σ)) (mset s2 c 0 r1) (fun r3 s4 => nA 1000 120 ((mX 21 σ)) (mset s4 c 1 r3) (fun r5 s6 => nA 2000 120 ((mX 21 σ)) (mset s6 c 3 r5) (fun r7 s8 => nA 1000 120 ((mX 21 σ)) (mset s8 c 4 r7) (fun r9 s10 => nA 1000 6 ((mX 21 σ)) (mset s10 c 6 r9) (fun r11 s12 => some (0, mset s12 c 7 r11))))))) := (mcall_blk d 21 [] 999 _ σ rfl).trans rfl
set_option maxRecDepth 100000 in
theorem e_30 (d : Nat) (c : Nat) (σ : mM) : mcall (d + 1) 30 [(23, (c : Int))] σ =
  nA 3000 60 ((mX 30 σ)) σ (fun r1 s2 => some (0, mset (mset s2 c 0 r1) c 1 (-2))) := (mcall_blk d 30 [] 999 _ σ rfl).trans rfl
set_option maxRecDepth 100000 in
theorem e_36 (d : Nat) (c : Nat) (σ : mM) : mcall (d + 1) 36 [(24, (c : Int))] σ =
  nO 1 5 ((mX 36 σ)) σ (fun r1 s2 => bK ((mcall d) 5 [(21, r1)] s2) (fun _ s3 => nC 5 ((mX 36 σ)) s2 s3 (nA 1000 8 ((mX 36 σ)) (mset s3 c 0 r1) (fun r4 s5 => nA 1000 8 ((mX 36 σ)) (mset s5 c 1 r4) (fun r6 s7 => nA 1000 8 ((mX 36 σ)) (mset s7 c 2 r6) (fun r8 s9 => nO 2 8 ((mX 36 σ)) (mset s9 c 3 r8) (fun r10 s11 => bK ((mcall d) 21 [(22, r10)] s11) (fun _ s12 => nC 21 ((mX 36 σ)) s11 s12 (nO 2 8 ((mX 36 σ)) (mset s12 c 6 r10) (fun r13 s14 => bK ((mcall d) 21 [(22, r13)] s14) (fun _ s15 => nC 21 ((mX 36 σ)) s14 s15 (some (0, mset s15 c 7 r13))))))))))))) := (mcall_blk d 36 [] 999 _ σ rfl).trans rfl
set_option maxRecDepth 100000 in
theorem e_46 (d : Nat) (c : Nat) (σ : mM) : mcall (d + 1) 46 [(25, (c : Int))] σ =
  nA 1000 50 ((mX 46 σ)) σ (fun r1 s2 => nA 1000 24 ((mX 46 σ)) (mset s2 c 0 r1) (fun r3 s4 => some (0, mset s4 c 2 r3))) := (mcall_blk d 46 [] 999 _ σ rfl).trans rfl
set_option maxRecDepth 100000 in
theorem e_54 (d : Nat) (c : Nat) (σ : mM) : mcall (d + 1) 54 [(26, (c : Int))] σ =
  nA 1000 120 ((mX 54 σ)) σ (fun r1 s2 => some (0, mset s2 c 0 r1)) := (mcall_blk d 54 [] 999 _ σ rfl).trans rfl
set_option maxRecDepth 100000 in
theorem e_66 (d : Nat) (c : Nat) (x1 : Nat) (σ : mM) : mcall (d + 1) 66 [(27, (c : Int)), (24, (x1 : Int))] σ =
  nO 1 5 ((mX 66 σ)) σ (fun r1 s2 => bK ((mcall d) 5 [(21, r1)] s2) (fun _ s3 => nC 5 ((mX 66 σ)) s2 s3 (nA 1000 3 ((mX 66 σ)) (mset s3 c 1 r1) (fun r4 s5 => some (0, mset (mset s5 c 2 r4) c 0 ((x1 : Int))))))) := (mcall_blk d 66 [] 999 _ σ rfl).trans rfl
set_option maxRecDepth 100000 in
theorem e_82 (d : Nat) (c : Nat) (σ : mM) : mcall (d + 1) 82 [(28, (c : Int))] σ =
  nA 1000 30 ((mX 82 σ)) σ (fun r1 s2 => nA 1000 30 ((mX 82 σ)) (mset s2 c 0 r1) (fun r3 s4 => nA 1000 30 ((mX 82 σ)) (mset s4 c 1 r3) (fun r5 s6 => nA 1000 30 ((mX 82 σ)) (mset s6 c 2 r5) (fun r7 s8 => some (0, mset s8 c 3 r7))))) := (mcall_blk d 82 [] 999 _ σ rfl).trans rfl
set_option maxRecDepth 100000 in
theorem e_87 (d : Nat) (c : Nat) (σ : mM) : mcall (d + 1) 87 [(29, (c : Int))] σ =
  nO 4 8 ((mX 87 σ)) σ (fun r1 s2 => bK ((mcall d) 36 [(24, r1)] s2) (fun _ s3 => nC 36 ((mX 87 σ)) s2 s3 (nO 6 4 ((mX 87 σ)) (mset s3 c 0 r1) (fun r4 s5 => bK ((mcall d) 54 [(26, r4)] s5) (fun _ s6 => nC 54 ((mX 87 σ)) s5 s6 (nO 7 10 ((mX 87 σ)) (mset s6 c 1 r4) (fun r7 s8 => bK ((mcall d) 66 [(27, r7), (24, r1)] s8) (fun _ s9 => nC 66 ((mX 87 σ)) s8 s9 (nO 8 8 ((mX 87 σ)) (mset s9 c 2 r7) (fun r10 s11 => bK ((mcall d) 82 [(28, r10)] s11) (fun _ s12 => nC 82 ((mX 87 σ)) s11 s12 (nO 0 6 ((mX 87 σ)) (mset s12 c 3 r10) (fun r13 s14 => bK ((mcall d) 0 [(20, r13)] s14) (fun _ s15 => nC 0 ((mX 87 σ)) s14 s15 (nO 5 4 ((mX 87 σ)) (mset s15 c 4 r13) (fun r16 s17 => bK ((mcall d) 46 [(25, r16)] s17) (fun _ s18 => nC 46 ((mX 87 σ)) s17 s18 (nA 9000 6 ((mX 87 σ)) (mset s18 c 5 r16) (fun r19 s20 => mgo (mcall d) (mX 87 σ) 87 84 [(29, (c : Int)), (24, r1), (0, 0)] [] (mset s20 c 6 r19)))))))))))))))))))) := (mcall_blk d 87 [84] 999 _ σ rfl).trans rfl
set_option maxRecDepth 100000 in
theorem b_87_84 (K : mK) (mx : Int × Int) (c : Nat) (x1 : Nat) (v2 : Int) (σ : mM) : mgo K mx 87 84 [(29, (c : Int)), (24, (x1 : Int)), (0, v2)] [] σ =
  bLt v2 6 (bLt (σ c 6) 0 none (nO 3 4 mx σ (fun r1 s2 => bK (K 30 [(23, r1)] s2) (fun _ s3 => nC 30 mx s2 s3 (bIn v2 6 (mgo K mx 87 84 [(29, (c : Int)), (24, (x1 : Int)), (0, w32 (v2 + 1))] [] (mset s3 (σ c 6).toNat v2.toNat r1))))))) (nO 1 5 mx σ (fun r4 s5 => bK (K 5 [(21, r4)] s5) (fun _ s6 => nC 5 mx s5 s6 (bIn 0 2 (some (0, mset (mset s6 c 7 r4) c 8 0)))))) := (mgo_blk K mx 87 [84] 999 _ _ _ σ).trans rfl
set_option maxRecDepth 100000 in
theorem e_132 (d : Nat) (c : Nat) (σ : mM) : mcall (d + 1) 132 [(30, (c : Int))] σ =
  nA 1000 30 ((mX 132 σ)) σ (fun r1 s2 => nA 1000 30 ((mX 132 σ)) (mset s2 c 0 r1) (fun r3 s4 => nA 1000 30 ((mX 132 σ)) (mset s4 c 1 r3) (fun r5 s6 => nA 1000 24 ((mX 132 σ)) (mset s6 c 2 r5) (fun r7 s8 => nA 1000 2 ((mX 132 σ)) (mset s8 c 4 r7) (fun r9 s10 => mgo (mcall d) (mX 132 σ) 132 43 [(30, (c : Int)), (2, 0)] [] (mset s10 c 5 r9)))))) := (mcall_blk d 132 [43, 84, 126, 165, 206, 245, 247] 999 _ σ rfl).trans rfl
set_option maxRecDepth 100000 in
theorem b_132_43 (K : mK) (mx : Int × Int) (c : Nat) (σ : mM) : mgo K mx 132 43 [(30, (c : Int)), (2, 0)] [] σ =
  nA 1000 120 mx σ (fun r1 s2 => nA 1000 60 mx (mset s2 c 8 r1) (fun r3 s4 => nA 1000 60 mx (mset s4 c 11 r3) (fun r5 s6 => nA 1000 60 mx (mset s6 c 12 r5) (fun r7 s8 => nA 1000 200 mx (mset s8 c 13 r7) (fun r9 s10 => mgo K mx 132 84 [(30, (c : Int)), (2, 0)] [] (mset s10 c 14 r9)))))) := (mgo_blk K mx 132 [43, 84, 126, 165, 206, 245, 247] 999 _ _ _ σ).trans rfl
set_option maxRecDepth 100000 in
theorem b_132_84 (K : mK) (mx : Int × Int) (c : Nat) (σ : mM) : mgo K mx 132 84 [(30, (c : Int)), (2, 0)] [] σ =
  nA 1000 61 mx σ (fun r1 s2 => nA 1000 61 mx (mset s2 c 19 r1) (fun r3 s4 => nA 1000 61 mx (mset s4 c 20 r3) (fun r5 s6 => nA 1000 200 mx (mset s6 c 21 r5) (fun r7 s8 => nA 1000 200 mx (mset s8 c 22 r7) (fun r9 s10 => mgo K mx 132 126 [(30, (c : Int)), (2, 0)] [] (mset s10 c 23 r9)))))) := (mgo_blk K mx 132 [43, 84, 126, 165, 206, 245, 247] 999 _ _ _ σ).trans rfl
set_option maxRecDepth 100000 in
theorem b_132_126 (K : mK) (mx : Int × Int) (c : Nat) (σ : mM) : mgo K mx 132 126 [(30, (c : Int)), (2, 0)] [] σ =
  nA 1000 6 mx σ (fun r1 s2 => nA 1000 5 mx (mset s2 c 24 r1) (fun r3 s4 => nA 1000 92 mx (mset s4 c 25 r3) (fun r5 s6 => nA 1000 5 mx (mset s6 c 27 r5) (fun r7 s8 => nA 1000 160 mx (mset s8 c 28 r7) (fun r9 s10 => mgo K mx 132 165 [(30, (c : Int)), (2, 0)] [] (mset s10 c 31 r9)))))) := (mgo_blk K mx 132 [43, 84, 126, 165, 206, 245, 247] 999 _ _ _ σ).trans rfl
set_option maxRecDepth 100000 in
theorem b_132_165 (K : mK) (mx : Int × Int) (c : Nat) (σ : mM) : mgo K mx 132 165 [(30, (c : Int)), (2, 0)] [] σ =
  nA 1000 50 mx σ (fun r1 s2 => nA 1000 24 mx (mset s2 c 33 r1) (fun r3 s4 => nA 1000 6 mx (mset s4 c 35 r3) (fun r5 s6 => nA 1000 6 mx (mset s6 c 36 r5) (fun r7 s8 => nA 3000 360 mx (mset s8 c 37 r7) (fun r9 s10 => mgo K mx 132 206 [(30, (c : Int)), (2, 0)] [] (mset s10 c 38 r9)))))) := (mgo_blk K mx 132 [43, 84, 126, 165, 206, 245, 247] 999 _ _ _ σ).trans rfl
set_option maxRecDepth 100000 in
theorem b_132_206 (K : mK) (mx : Int × Int) (c : Nat) (σ : mM) : mgo K mx 132 206 [(30, (c : Int)), (2, 0)] [] σ =
  nA 1000 92 mx σ (fun r1 s2 => nA 1000 92 mx (mset s2 c 39 r1) (fun r3 s4 => nA 1000 3 mx (mset s4 c 40 r3) (fun r5 s6 => nA 1000 30 mx (mset s6 c 41 r5) (fun r7 s8 => nA 1000 30 mx (mset s8 c 42 r7) (fun r9 s10 => mgo K mx 132 245 [(30, (c : Int)), (2, 0)] [] (mset s10 c 43 r9)))))) := (mgo_blk K mx 132 [43, 84, 126, 165, 206, 245, 247] 999 _ _ _ σ).trans rfl
set_option maxRecDepth 100000 in
theorem b_132_245 (K : mK) (mx : Int × Int) (c : Nat) (σ : mM) : mgo K mx 132 245 [(30, (c : Int)), (2, 0)] [] σ =
  mgo K mx 132 247 [(30, (c : Int)), (0, 0)] [] σ := (mgo_blk K mx 132 [43, 84, 126, 165, 206, 245, 247] 999 _ _ _ σ).trans rfl
set_option maxRecDepth 100000 in
theorem b_132_247 (K : mK) (mx : Int × Int) (c : Nat) (v1 : Int) (σ : mM) : mgo K mx 132 247 [(30, (c : Int)), (0, v1)] [] σ =
  bLt v1 6 (bLt (σ c 36) 0 none (bIn v1 6 (mgo K mx 132 247 [(30, (c : Int)), (0, w32 (v1 + 1))] [] (mset σ (σ c 36).toNat v1.toNat (-1))))) (some (0, σ)) := (mgo_blk K mx 132 [43, 84, 126, 165, 206, 245, 247] 999 _ _ _ σ).trans rfl
set_option maxRecDepth 100000 in
theorem e_230 (K : mK) (mx : Int × Int) (g : mG) (σ : mM) : mblk K mx 230 g [18] 999 0 [(4, 903), (2, 0), (2, 0), (2, 0)] [] σ =
  nO 9 9 mx σ (fun r1 s2 => bK (K 87 [(29, r1)] s2) (fun _ s3 => nC 87 mx s2 s3 (nO 10 44 mx s3 (fun r4 s5 => bK (K 132 [(30, r4)] s5) (fun _ s6 => nC 132 mx s5 s6 (g 18 [(4, 903), (29, r1), (30, r4), (0, 0)] [] s6)))))) := rfl
