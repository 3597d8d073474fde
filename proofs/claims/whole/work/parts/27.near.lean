/-! PURE PART 7: squares beside, in the model -/
theorem s_166 {d q way : Nat} {τ : mM} (hq : q < 30) (hw : way < 4) : mcall (d + 1) 166 [(0, (q : Int)), (0, (way : Int))] τ = some (besA q way, τ) := by
  have t : Int.tmod (q : Int) 6 = ((q % 6 : Nat) : Int) := rfl
  have v : w32 (Int.tdiv (q : Int) 6) = ((q / 6 : Nat) : Int) := by rw [show Int.tdiv (q : Int) 6 = ((q / 6 : Nat) : Int) from rfl, w32_e (by omega)]
  rw [e_166, t, v]
  unfold besA
  rcases (by omega : way = 0 ∨ way = 1 ∨ way = 2 ∨ way = 3) with rfl | rfl | rfl | rfl
  · rw [bEq_t (by rfl), if_pos rfl]
    by_cases h : 6 ≤ q
    · rw [bLt_f (by omega), if_pos h, w32_e (by omega)]
    · rw [bLt_t (by omega), if_neg h]
  · rw [bEq_f (by omega), bEq_t (by rfl), bEq_f (x := 6) (by omega), if_neg (by omega), if_pos rfl]
    by_cases h : q % 6 < 5
    · rw [bEq_f (by omega), if_pos h, w32_e (by omega)]
    · rw [bEq_t (by omega), if_neg h]
  · rw [bEq_f (by omega), bEq_f (by omega), bEq_t (by rfl), bEq_f (x := 6) (by omega), if_neg (by omega), if_neg (by omega), if_pos rfl]
    by_cases h : q < 24
    · rw [bEq_f (by omega), if_pos h, w32_e (by omega)]
    · rw [bEq_t (by omega), if_neg h]
  · rw [bEq_f (by omega), bEq_f (by omega), bEq_f (by omega), bEq_f (x := 6) (by omega), if_neg (by omega), if_neg (by omega), if_neg (by omega)]
    by_cases h : 0 < q % 6
    · rw [bEq_f (by omega), if_pos h, w32_e (by omega)]
    · rw [bEq_t (by omega), if_neg h]
theorem besA_lt {q way : Nat} (hq : q < 30) (h : 0 ≤ besA q way) : besA q way < 30 := by
  unfold besA at h ⊢
  repeat' split
  all_goals omega
/-- what one way adds -/
def addA (T : Nat → Int) (q way : Nat) : Int := if 0 ≤ besA q way then T (besA q way).toNat else 0
theorem s_167s {d q way : Nat} {mx : Int × Int} {v : Int} {τ : mM} (hq : q < 30) (hw : way < 4) (hv : 0 ≤ v ∧ v ≤ 100) (hT : ∀ j, j < 30 → 0 ≤ τ 66 j ∧ τ 66 j ≤ 9) : mgo (mcall (d + 1)) mx 167 4 [(30, 64), (0, (q : Int)), (0, v), (0, (way : Int))] [] τ = mgo (mcall (d + 1)) mx 167 4 [(30, 64), (0, (q : Int)), (0, v + addA (τ 66) q way), (0, ((way + 1 : Nat) : Int))] [] τ := by
  rw [b_167_4, bLt_t (by omega), s_166 hq hw, bK_t, w32_n (by omega)]
  unfold addA
  by_cases h : 0 ≤ besA q way
  · have h2 := besA_lt hq h
    have h3 := hT (besA q way).toNat (by omega)
    rw [bLt_f h, s_166 hq hw, bK_t, bIn_t ⟨h, h2⟩, if_pos h, w32_e (by omega)]
  · rw [bLt_t (by omega), if_neg h, Int.add_zero]
theorem addA_b {T : Nat → Int} {q way : Nat} (hq : q < 30) (hT : ∀ j, j < 30 → 0 ≤ T j ∧ T j ≤ 9) : 0 ≤ addA T q way ∧ addA T q way ≤ 9 := by
  unfold addA
  by_cases h : 0 ≤ besA q way
  · have h2 := besA_lt hq h
    rw [if_pos h]
    exact hT _ (by omega)
  · rw [if_neg h]
    omega
theorem addA_near {T : Nat → Int} {q : Nat} : addA T q 0 + addA T q 1 + addA T q 2 + addA T q 3 = nearA T q := by
  have a0 : addA T q 0 = if 6 ≤ q then T (q - 6) else 0 := by
    unfold addA
    rw [show besA q 0 = (if 6 ≤ q then (q : Int) - 6 else -1) from rfl]
    by_cases h : 6 ≤ q
    · rw [if_pos h, if_pos (by omega), if_pos h]; exact congrArg T (by omega)
    · rw [if_neg h, if_neg (by omega), if_neg h]
  have a1 : addA T q 1 = if q % 6 < 5 then T (q + 1) else 0 := by
    unfold addA
    rw [show besA q 1 = (if q % 6 < 5 then (q : Int) + 1 else -1) from rfl]
    by_cases h : q % 6 < 5
    · rw [if_pos h, if_pos (by omega), if_pos h]; exact congrArg T (by omega)
    · rw [if_neg h, if_neg (by omega), if_neg h]
  have a2 : addA T q 2 = if q < 24 then T (q + 6) else 0 := by
    unfold addA
    rw [show besA q 2 = (if q < 24 then (q : Int) + 6 else -1) from rfl]
    by_cases h : q < 24
    · rw [if_pos h, if_pos (by omega), if_pos h]; exact congrArg T (by omega)
    · rw [if_neg h, if_neg (by omega), if_neg h]
  have a3 : addA T q 3 = if 0 < q % 6 then T (q - 1) else 0 := by
    unfold addA
    rw [show besA q 3 = (if 0 < q % 6 then (q : Int) - 1 else -1) from rfl]
    by_cases h : 0 < q % 6
    · rw [if_pos h, if_pos (by omega), if_pos h]; exact congrArg T (by omega)
    · rw [if_neg h, if_neg (by omega), if_neg h]
  rw [a0, a1, a2, a3]
  rfl
theorem s_167 {d q : Nat} {τ : mM} (hq : q < 30) (hT : ∀ j, j < 30 → 0 ≤ τ 66 j ∧ τ 66 j ≤ 9) : mcall (d + 2) 167 [(30, 64), (0, (q : Int))] τ = some (nearA (τ 66) q, τ) := by
  have c0 := addA_b (way := 0) hq hT
  have c1 := addA_b (way := 1) hq hT
  have c2 := addA_b (way := 2) hq hT
  have c3 := addA_b (way := 3) hq hT
  rw [e_167]
  refine Eq.trans (s_167s (way := 0) (v := 0) hq (by omega) (by omega) hT) ?_
  refine Eq.trans (s_167s (way := 1) hq (by omega) (by omega) hT) ?_
  refine Eq.trans (s_167s (way := 2) hq (by omega) (by omega) hT) ?_
  refine Eq.trans (s_167s (way := 3) hq (by omega) (by omega) hT) ?_
  rw [b_167_4, bLt_f (by omega), Int.zero_add, addA_near]
