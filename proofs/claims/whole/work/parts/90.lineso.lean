/-! PURE PART 67: all lines, in the model -/
section
variable {d n : Nat} {T : Nat → Int} {mx : Int × Int}
theorem l_163 : ∀ (k a : Nat) (τ : mM) (L0 : List (List Int × List Int)) (o i : Nat), n < a + k → rM T n a 0 τ → lawO τ 0 0 L0 o i → τ 64 17 = (o : Int) → τ 64 18 = (i : Int) → 2 * i ≤ a → ∃ μ vv, bK (mcall (d + 62) 162 [(30, 64)] τ) (fun r1 s2 => mgo (mcall (d + 62)) mx 163 25 [(30, 64), (0, r1), (2, 0), (2, 0)] [] s2) = mgo (mcall (d + 62)) mx 163 66 [(30, 64), (0, vv), (2, 0), (2, 0)] [(0, if (pl T n k a).1 = true then 1 else 0)] μ ∧ fy τ μ ∧ μ 64 15 = ((pl T n k a).2.1 : Int) ∧ (pl T n k a).2.1 ≤ n ∧ ((pl T n k a).1 = true → ∃ o' i', lawO μ 0 0 (L0 ++ (pl T n k a).2.2) o' i' ∧ μ 64 17 = (o' : Int) ∧ μ 64 18 = (i' : Int) ∧ o' ≤ 120 ∧ i' ≤ 60) := by
  intro k
  induction k with
  | zero => intro a τ L0 o i hk R; have := R.2.1; omega
  | succ k ih =>
    intro a τ L0 o i hk R N h17 h18 h2
    have n120 := R.1
    have LG := ln_g (T := T) R.2.1
    obtain ⟨μ, s, f, at15, good⟩ := s_162k (d := d) R h17 h18 (by have := R.2.1; omega)
    rw [s, bK_t]
    unfold pl
    rcases hx : ln T n a with ⟨ok, b, Q, A⟩
    rw [hx] at LG at15 good
    simp only at LG at15 good
    cases ok with
    | false =>
      refine ⟨μ, 0, ?_, f, at15, LG.2.1, fun z => by cases z⟩
      simp only
      rw [if_neg (by decide), f_163_25, bEq_t rfl, f_163_46, bEq_t rfl, f_163_65]
    | true =>
      obtain ⟨o', x1, R1, x2, x3, N1, x4, x5⟩ := good rfl
      have N2 := lawO_a (lawO_f x4 x5 N) N1
      have gl := LG.2.2.2 rfl
      simp only
      rw [if_pos (by trivial), f_163_25, bEq_f (by omega), s_152 R1]
      by_cases h59 : nx T n b = 59
      · have hb : b < n := nx_lt (T := T) (by omega)
        have R2 : rM T n (b + 1) 0 (sM [] (b + 1) 0 μ) := rM_s R1 hb (by show 0 + b ≤ b + 1; omega) (by omega)
        have N3 : lawO (sM [] (b + 1) 0 μ) 0 0 (L0 ++ [(Q, A)]) o' (i + 1) := lawO_f (fun j _ => by unfold sM; rw [ms_n (by omega), ms_n (by omega)]; rfl) (fun j _ => ⟨sM_r (by omega), sM_r (by omega), sM_r (by omega)⟩) N2
        obtain ⟨ν, vv, i1, i2, i3, i4, i5⟩ := ih (b + 1) (sM [] (b + 1) 0 μ) (L0 ++ [(Q, A)]) o' (i + 1) (by omega) R2 N3 (by rw [sM_17, x2]; exact Int.add_zero _) ((sM_18 (by omega) (by omega)).trans x3) (by omega)
        refine ⟨ν, vv, ?_, fy_t f (fy_t sM_fy i2), ?_, ?_, ?_⟩
        · rw [if_pos h59, if_pos h59, bK_t, bEq_f (by omega)]
          exact i1
        · rw [if_pos h59]; exact i3
        · rw [if_pos h59]; exact i4
        · rw [if_pos h59]
          rcases hy : pl T n k (b + 1) with ⟨ok, c, L⟩
          rw [hy] at i5
          intro z
          have := i5 z
          rw [List.append_assoc] at this
          exact this
      · refine ⟨μ, 1, ?_, f, ?_, ?_, ?_⟩
        · rw [if_neg h59, if_neg h59, bK_t, bEq_t rfl, f_163_46, bEq_f (by omega), R1.2.2.2.2.1, R1.2.2.2.1]
          by_cases e : b = n
          · rw [bEq_t (by omega)]
            simp only
            rw [if_pos (decide_eq_true e)]
          · rw [bEq_f (by omega), f_163_65]
            simp only
            rw [if_neg (by rw [decide_eq_true_eq]; exact e)]
        · rw [if_neg h59]; exact R1.2.2.2.2.1
        · rw [if_neg h59]; exact R1.2.1
        · rw [if_neg h59]
          intro z
          have e : b = n := of_decide_eq_true z
          have c17 := R1.2.2.2.2.2.2.2.2
          exact ⟨o', i + 1, N2, x2, x3, by omega, by omega⟩
end
