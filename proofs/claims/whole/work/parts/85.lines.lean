/-! PURE PART 62: all lines, in the class -/
section
variable {d n w : Nat} {T : Nat → Int} {mx : Int × Int}
theorem l_56 : ∀ (k v2 a : Nat) (τ : mM) (L0 : List (List Int × List Int)) (o p : Nat), v2 + k = n + 1 → rd T n w a τ → lawN τ w 0 0 L0 o p → τ w 2 = (o : Int) → τ w 5 = (p : Int) → p ≤ a → ∃ μ, mgo (mcall (d + 202)) mx 56 19 [(26, 24), (22, (w : Int)), (0, (v2 : Int))] [] τ = some (if (pl T n k a).1 = true then -1 else ((pl T n k a).2.1 : Int), μ) ∧ fz w τ μ ∧ ((pl T n k a).1 = true → lawC μ w 0 0 (L0 ++ (pl T n k a).2.2)) := by
  intro k
  induction k with
  | zero =>
    intro v2 a τ L0 o p hv R N h2 h5 hp
    refine ⟨τ, ?_, fun _ _ _ _ => rfl, fun z => by cases z⟩
    rw [b_56_19, R.2.2.2.1, bLt_t (by omega), R.2.2.2.2.1]
    rfl
  | succ k ih =>
    intro v2 a τ L0 o p hv R N h2 h5 hp
    have hw := R.2.2.1
    have n120 := R.1
    have LG := ln_g (T := T) R.2.1
    obtain ⟨μ, s, f, at24, good⟩ := s_57k (d := d) R h2 h5 hp
    rw [b_56_19, R.2.2.2.1, bLt_f (by omega), s, bK_t]
    unfold pl
    rcases hx : ln T n a with ⟨ok, b, Q, A⟩
    rw [hx] at LG at24 good
    simp only at LG at24 good
    cases ok with
    | false =>
      refine ⟨μ, ?_, f, fun z => by cases z⟩
      simp only
      rw [if_neg (by decide), bEq_t rfl, at24]
      rfl
    | true =>
      obtain ⟨o', p', x1, x2, x3, R1, x4, x5, N1, x6, x7⟩ := good rfl
      have N2 := lawN_a (lawN_f x6 x7 N) N1
      simp only
      rw [if_pos (by trivial), bEq_f (by omega), R1.2.2.2.2.1, R1.2.2.2.1]
      by_cases hb : b < n
      · rw [bLt_t (by omega), s_63 R1, bK_t]
        by_cases h59 : nx T n b = 59
        · have R2 : rd T n w (b + 1) (st w [] (b + 1) μ) := rd_st (l := []) R1 hb (by show 0 + b ≤ b + 1; omega)
          have e : ∀ c j, ¬ (c = 24 ∧ j = 2) → st w [] (b + 1) μ c j = μ c j := fun c j h => ms_n (by omega)
          obtain ⟨ν, i1, i2, i3⟩ := ih (v2 + 1) (b + 1) (st w [] (b + 1) μ) (L0 ++ [(Q, A)]) o' p' (by omega) R2 (lawN_f (fun j _ => ⟨e _ _ (by omega), e _ _ (by omega)⟩) (fun j _ => ⟨e _ _ (by omega), e _ _ (by omega)⟩) N2) ((e _ _ (by omega)).trans x4) ((e _ _ (by omega)).trans x5) (by omega)
          have sm : mset μ 24 2 ((b + 1 : Nat) : Int) = st w [] (b + 1) μ := rfl
          refine ⟨ν, ?_, fz_t f (fz_t st_fz i2), ?_⟩
          · rw [bEq_t h59, R1.2.2.2.2.1, w32_n (by omega), w32_n (by omega), sm, i1, if_pos h59]
          · rw [if_pos h59]
            rcases hy : pl T n k (b + 1) with ⟨ok, c, L⟩
            rw [hy] at i3
            intro z
            have := i3 z
            rw [List.append_assoc] at this
            exact this
        · refine ⟨μ, ?_, f, ?_⟩
          · rw [bEq_f h59, if_neg h59, R1.2.2.2.2.1]
            simp only
            rw [if_neg (by rw [decide_eq_true_eq]; omega)]
          · rw [if_neg h59]
            intro z
            have : b = n := of_decide_eq_true z
            omega
      · have e : b = n := by omega
        have h59 : ¬ nx T n b = 59 := by unfold nx; rw [if_neg hb]; omega
        refine ⟨μ, ?_, f, ?_⟩
        · rw [bLt_f (by omega), if_neg h59]
          simp only
          rw [if_pos (decide_eq_true e)]
        · rw [if_neg h59]
          intro _
          have := R1.2.2.2.2.2.2.2.2
          exact lawN_C N2 x5 (by omega) (by omega)
end
