/-! PURE PART 57: a line -/
section
variable {n : Nat} {T : Nat → Int}
/-- a line from place a on: whether, where, what it asks (or nothing), what it says -/
def ln (T : Nat → Int) (n a : Nat) : Bool × Nat × List Int × List Int := match pr T n 48 0 0 a with
  | (false, b, _) => (false, b, [], [])
  | (true, b, A) => if nx T n b = 63 then (match pr T n 48 0 0 (b + 1) with
      | (false, c, _) => (false, c, [], [])
      | (true, c, B) => (true, c, A, B)) else (true, b, [], A)
/-- the lines from place a on -/
def pl (T : Nat → Int) (n : Nat) : Nat → Nat → Bool × Nat × List (List Int × List Int)
  | 0, a => (false, a, [])
  | k + 1, a => match ln T n a with
    | (false, b, _, _) => (false, b, [])
    | (true, b, Q, A) => if nx T n b = 59 then (match pl T n k (b + 1) with
        | (ok, c, L) => (ok, c, (Q, A) :: L)) else (decide (b = n), b, [(Q, A)])
theorem vE_n {l : List Int} (h : vE l) : l.length ≠ 0 := by
  intro e
  have : l = [] := List.eq_nil_of_length_eq_zero e
  subst this
  have h2 : vld 0 [] := h 0 [] rfl
  exact absurd (show (0 : Nat) = 1 from h2) (by decide)
theorem vE_0 {l : List Int} (h : vE l) : vld 0 l := by
  have := h 0 [] rfl
  rw [List.append_nil] at this
  exact this
theorem ln_g {a : Nat} (ha : a ≤ n) : a ≤ (ln T n a).2.1 ∧ (ln T n a).2.1 ≤ n ∧ (ln T n a).2.2.1.length + (ln T n a).2.2.2.length + a ≤ (ln T n a).2.1 ∧ ((ln T n a).1 = true → vE (ln T n a).2.2.2 ∧ ((ln T n a).2.2.1.length = 0 ∨ vE (ln T n a).2.2.1) ∧ a < (ln T n a).2.1) := by
  have G := pr_g (T := T) 48 0 0 a ha
  unfold ln
  rcases hx : pr T n 48 0 0 a with ⟨ok, b, A⟩
  rw [hx] at G
  obtain ⟨g1, g2, g3, g4⟩ := G
  simp only at g1 g2 g3 g4
  cases ok with
  | false => exact ⟨g1, g2, by show 0 + 0 + a ≤ b; omega, fun z => by cases z⟩
  | true =>
    obtain ⟨g5, g6⟩ := g4 rfl
    by_cases h : nx T n b = 63
    · have hb : b < n := nx_lt (T := T) (by omega)
      have G := pr_g (T := T) 48 0 0 (b + 1) hb
      simp only [if_pos h]
      rcases hy : pr T n 48 0 0 (b + 1) with ⟨ok, c, B⟩
      rw [hy] at G
      obtain ⟨k1, k2, k3, k4⟩ := G
      simp only at k1 k2 k3 k4
      cases ok with
      | false => exact ⟨by show a ≤ c; omega, k2, by show 0 + 0 + a ≤ c; omega, fun z => by cases z⟩
      | true =>
        obtain ⟨k5, k6⟩ := k4 rfl
        exact ⟨by show a ≤ c; omega, k2, by show A.length + B.length + a ≤ c; omega, fun _ => ⟨k5, Or.inr g5, by show a < c; omega⟩⟩
    · simp only [if_neg h]
      exact ⟨g1, g2, by show 0 + A.length + a ≤ b; omega, fun _ => ⟨g5, Or.inl rfl, g6⟩⟩
end
