/-! PURE PART 8: what the model keeps and has again -/
/-- a kept cover: 92 numbers of one row -/
def gK (x : Nat) (σ : mM) : cV := fun k j => if k < 3 then (if j < 30 then σ x (30 * k + j) else 0) else if k = 3 ∧ j = 0 then σ x 90 else if k = 3 ∧ j = 1 then σ x 91 else 0
theorem gK_n {x : Nat} {σ : mM} : nV (gK x σ) := by
  intro k j h
  unfold gK
  by_cases h3 : k < 3
  · rw [if_pos h3, if_neg (by omega)]
  · rw [if_neg h3, if_neg (by omega), if_neg (by omega)]
def agI (n : Nat) (U V : cV) : cV := fun k j => if k < 3 ∧ j < n then U k j else V k j
theorem agI_s {n : Nat} {U V : cV} : up3 (agI n U V) n (fun k => U k n) = agI (n + 1) U V := by
  funext k j
  by_cases h : k < 3 ∧ j = n
  · rw [show up3 (agI n U V) n (fun k => U k n) k j = U k n from if_pos h, show agI (n + 1) U V k j = U k j from if_pos (by omega), h.2]
  · rw [show up3 (agI n U V) n (fun k => U k n) k j = agI n U V k j from if_neg h]
    by_cases h2 : k < 3 ∧ j < n
    · rw [show agI n U V k j = U k j from if_pos h2, show agI (n + 1) U V k j = U k j from if_pos (by omega)]
    · rw [show agI n U V k j = V k j from if_neg h2, show agI (n + 1) U V k j = V k j from if_neg (by omega)]
theorem s_179l {K : mK} {mx : Int × Int} {x : Nat} {V : cV} {σ : mM} (hx : x ≠ 65 ∧ x ≠ 66 ∧ x ≠ 67 ∧ x ≠ 69 ∧ x ≠ 64) : ∀ (n i : Nat), i + n = 30 → mgo K mx 179 2 [(30, 64), (1092, (x : Int)), (0, (i : Int))] [] (sL 65 66 67 69 0 64 6 (agI i (gK x σ) V) σ) = mgo K mx 179 2 [(30, 64), (1092, (x : Int)), (0, 30)] [] (sL 65 66 67 69 0 64 6 (agI 30 (gK x σ) V) σ) := by
  intro n
  induction n with
  | zero =>
    intro i hi
    rw [show i = 30 by omega]
    rfl
  | succ n ih =>
    intro i hi
    have hi3 : i < 30 := by omega
    have w1 : w32 (30 + (i : Int)) = ((30 + i : Nat) : Int) := by rw [w32_e (by omega)]; omega
    have w2 : w32 (60 + (i : Int)) = ((60 + i : Nat) : Int) := by rw [w32_e (by omega)]; omega
    have r : ∀ (U : cV) (j : Nat), sL 65 66 67 69 0 64 6 U σ x j = σ x j := fun U j => sL_0 (by omega)
    have b := b_179_2 K mx x (i : Int) (sL 65 66 67 69 0 64 6 (agI i (gK x σ) V) σ)
    rw [bLt_t (by omega), bIn_t (by omega), bIn_t (by omega), w1, w2, bIn_t (by omega), bIn_t (by omega), bIn_t (by omega), bIn_t (by omega), w32_n (by omega)] at b
    refine Eq.trans b ?_
    simp only [tn_n, r, uL_1 hi3, uL_2 dM hi3, uL_3 dM hi3]
    rw [up3_u (f := fun k => gK x σ k i) (by simp [gK, hi3]) (by simp [gK, hi3]) (by simp [gK, hi3]), agI_s]
    exact ih (i + 1) (by omega)
theorem s_179 {d x : Nat} {V : cV} {σ : mM} (hx : x ≠ 65 ∧ x ≠ 66 ∧ x ≠ 67 ∧ x ≠ 69 ∧ x ≠ 64) (N : nV V) : mcall (d + 1) 179 [(30, 64), (1092, (x : Int))] (sL 65 66 67 69 0 64 6 V σ) = some (0, sL 65 66 67 69 0 64 6 (gK x σ) σ) := by
  have r : ∀ (U : cV) (j : Nat), sL 65 66 67 69 0 64 6 U σ x j = σ x j := fun U j => sL_0 (by omega)
  have a := s_179l (K := mcall d) (mx := mX 179 (sL 65 66 67 69 0 64 6 V σ)) (x := x) (V := V) (σ := σ) hx 30 0 rfl
  rw [show agI 0 (gK x σ) V = V from funext fun k => funext fun j => if_neg (by omega)] at a
  rw [e_179]
  refine Eq.trans a ?_
  have b := b_179_2 (mcall d) (mX 179 (sL 65 66 67 69 0 64 6 V σ)) x 30 (sL 65 66 67 69 0 64 6 (agI 30 (gK x σ) V) σ)
  refine Eq.trans b ?_
  rw [bLt_f (by omega), bIn_t (by omega), bIn_t (by omega), bIn_t (by omega), r, uL_4 dM, r, uL_5 dM]
  refine congrArg (fun U : cV => some ((0 : Int), sL 65 66 67 69 0 64 6 U σ)) ?_
  funext k j
  by_cases h5 : k = 3 ∧ j = 1
  · rw [h5.1, h5.2, up_e]; rfl
  · rw [up_o (by omega)]
    by_cases h4 : k = 3 ∧ j = 0
    · rw [h4.1, h4.2, up_e]; rfl
    · rw [up_o (by omega)]
      by_cases h : k < 3 ∧ j < 30
      · exact if_pos h
      · rw [show agI 30 (gK x σ) V k j = V k j from if_neg h, N k j (by omega), gK_n k j (by omega)]
