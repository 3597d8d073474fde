/-! PURE PART 68: the command 'law', in the class, whole -/
section
variable {d n w : Nat} {T : Nat → Int} {τ : mM}
theorem pl_b : ∀ (k a : Nat), a ≤ n → (pl T n k a).2.1 ≤ n := by
  intro k
  induction k with
  | zero => intro a ha; exact ha
  | succ k ih =>
    intro a ha
    have LG := ln_g (T := T) ha
    unfold pl
    rcases hx : ln T n a with ⟨ok, b, Q, A⟩
    rw [hx] at LG
    simp only at LG
    cases ok with
    | false => exact LG.2.1
    | true =>
      simp only
      by_cases h : nx T n b = 59
      · rw [if_pos h]
        have hb : b < n := nx_lt (T := T) (by omega)
        have i := ih (b + 1) hb
        rcases hy : pl T n k (b + 1) with ⟨ok, c, L⟩
        rw [hy] at i
        exact i
      · rw [if_neg h]; exact LG.2.1
theorem pl_1 : ∀ (k a : Nat), (pl T n (k + 1) a).1 = true → (pl T n (k + 1) a).2.2.length ≠ 0 := by
  intro k a
  unfold pl
  rcases hx : ln T n a with ⟨ok, b, Q, A⟩
  cases ok with
  | false => intro z; cases z
  | true =>
    simp only
    by_cases h : nx T n b = 59
    · rw [if_pos h]
      rcases hy : pl T n k (b + 1) with ⟨ok, c, L⟩
      intro _ z
      exact absurd (show L.length + 1 = 0 from z) (Nat.succ_ne_zero _)
    · rw [if_neg h]
      intro _ z
      exact absurd (show 0 + 1 = 0 from z) (by decide)
theorem s_93 (hn : n ≤ 120) (hw : w = 10 ∨ w = 17) (h7 : τ 1 7 = (w : Int)) (h6 : 0 ≤ τ 1 6) (h1 : τ 24 1 = (n : Int)) (hT : ∀ i, i < n → τ 25 i = T i) : ∃ μ, mcall (d + 204) 93 [(29, 0)] τ = some (if (pl T n (n + 1) 0).1 = true then 1 else -100 - ((pl T n (n + 1) 0).2.1 : Int), μ) ∧ (∀ b j, ¬ (b = 24 ∧ 1 ≤ j ∧ j ≤ 3) → ¬ (w ≤ b ∧ b ≤ w + 4) → ¬ (b = 1 ∧ (j = 6 ∨ j = 7)) → μ b j = τ b j) ∧ μ 24 1 = 0 ∧ ((pl T n (n + 1) 0).1 = true → lawC μ w 0 0 (pl T n (n + 1) 0).2.2 ∧ μ 1 6 = (w : Int) ∧ μ 1 7 = τ 1 6) ∧ (¬ (pl T n (n + 1) 0).1 = true → μ 1 6 = τ 1 6 ∧ μ 1 7 = τ 1 7) := by
  obtain ⟨μ, i1, i2, i3⟩ := s_56 (d := d) hn hw h1 hT
  have pb := pl_b (T := T) (n + 1) 0 (Nat.zero_le n)
  have j6 : μ 1 6 = τ 1 6 := i2 1 6 (by omega) (by omega)
  have j7 : μ 1 7 = (w : Int) := (i2 1 7 (by omega) (by omega)).trans h7
  have e6 : (mset μ 24 1 0) 1 6 = τ 1 6 := (ms_n (by omega)).trans j6
  have e7 : (mset μ 24 1 0) 1 7 = (w : Int) := (ms_n (by omega)).trans j7
  by_cases hp : (pl T n (n + 1) 0).1 = true
  · have e : ∀ a, a ≠ 1 → a ≠ 24 → (mset (mset (mset μ 24 1 0) 1 6 (w : Int)) 1 7 (τ 1 6)) a = μ a := fun a a1 a2 => funext fun j => by rw [ms_n (by omega), ms_n (by omega), ms_n (by omega)]
    refine ⟨mset (mset (mset μ 24 1 0) 1 6 (w : Int)) 1 7 (τ 1 6), ?_, fun b j q1 q2 q3 => ?_, ?_, fun _ => ⟨?_, ?_, ms_e⟩, fun z => absurd hp z⟩
    · rw [e_93, h7, bLt_f (by omega), i1, bK_t, if_pos hp, if_pos hp, bLt_t (by decide), e_37, e6, e7, bLt_f h6, bLt_f (by omega), bK_t]
    · rw [ms_n (by omega), ms_n (by omega), ms_n (by omega)]; exact i2 b j (by omega) q2
    · rw [ms_n (by omega), ms_n (by omega), ms_e]
    · exact lawC_g (e _ (by omega) (by omega)) (e _ (by omega) (by omega)) (e _ (by omega) (by omega)) (e _ (by omega) (by omega)) (e _ (by omega) (by omega)) (i3 hp)
    · rw [ms_n (by omega), ms_e]
  · refine ⟨mset μ 24 1 0, ?_, fun b j q1 q2 q3 => ?_, ms_e, fun z => absurd z hp, fun _ => ⟨e6, e7.trans h7.symm⟩⟩
    · rw [e_93, h7, bLt_f (by omega), i1, bK_t, if_neg hp, if_neg hp, bLt_f (by omega), w32_e (by omega)]
    · rw [ms_n (by omega)]; exact i2 b j (by omega) q2
end
