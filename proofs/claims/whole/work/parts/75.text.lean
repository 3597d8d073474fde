/-! PURE PART 52: reading, in the class: an expression -/
section
variable {n w : Nat} {T : Nat → Int}
theorem c58 : ∀ f, (∀ (r o a : Nat) (τ : mM) (d : Nat), r ≤ 5 → o ≤ 6 → 7 * (6 - o) + (6 - r) ≤ f → rd T n w a τ → mcall (d + 4 * f + 3) 58 [(26, 24), (0, (r : Int)), (0, (o : Int))] τ = rs w (pr T n f r o a) τ) ∧ (∀ (o a : Nat) (τ : mM) (d : Nat), o ≤ 6 → 7 * (6 - o) + 1 ≤ f → rd T n w a τ → mcall (d + 4 * f + 2) 59 [(26, 24), (0, (o : Int))] τ = rs w (pr T n f 5 o a) τ) := by
  intro f
  induction f with
  | zero => exact ⟨fun r o a τ d h1 h2 h3 => by omega, fun o a τ d h1 h2 => by omega⟩
  | succ f ih =>
    obtain ⟨i1, i2⟩ := ih
    have q59 : ∀ (o a : Nat) (τ : mM) (d : Nat), o ≤ 6 → 7 * (6 - o) + 1 ≤ f + 1 → rd T n w a τ → mcall (d + 4 * (f + 1) + 2) 59 [(26, 24), (0, (o : Int))] τ = rs w (pr T n (f + 1) 5 o a) τ := by
      intro o a τ d ho hf R
      have c := c59 (f := f) (o := o) (D := d + 4 * f + 2) ho R (fun h6 a τ R => by
        have := i1 0 (o + 1) a τ (d + 1) (by omega) (by omega) (by omega) R
        rw [show d + 1 + 4 * f + 3 = d + 4 * f + 2 + 2 from by omega] at this
        exact this) (fun h6 a τ R => by
        have := i2 (o + 1) a τ (d + 2) (by omega) (by omega) R
        rw [show d + 2 + 4 * f + 2 = d + 4 * f + 2 + 2 from by omega] at this
        exact this)
      rw [show d + 4 * f + 2 + 4 = d + 4 * (f + 1) + 2 from by omega] at c
      exact c
    refine ⟨fun r o a τ d hr ho hf R => ?_, q59⟩
    rw [show d + 4 * (f + 1) + 3 = (d + 4 * f + 6) + 1 from by omega, e_58]
    by_cases h5 : r < 5
    · have q : ∀ a τ, rd T n w a τ → mcall (d + 4 * f + 6) 58 [(26, 24), (0, ((r + 1 : Nat) : Int)), (0, (o : Int))] τ = rs w (pr T n f (r + 1) o a) τ := fun a τ R => by
        have := i1 (r + 1) o a τ (d + 3) (by omega) ho (by omega) R
        rw [show d + 3 + 4 * f + 3 = d + 4 * f + 6 from by omega] at this
        exact this
      have G := pr_g (T := T) f (r + 1) o a R.2.1
      rw [bLt_t (by omega), w32_n (by omega), q a τ R]
      show _ = rs w (if r < 5 then (match pr T n f (r + 1) o a with
        | (false, b, l) => (false, b, l)
        | (true, b, l) => lp T n (fun a => pr T n f (r + 1) o a) r (if r = 2 then 1 else n) b l) else _) τ
      rw [if_pos h5]
      rcases hx : pr T n f (r + 1) o a with ⟨ok, b, l⟩
      rw [hx] at G
      obtain ⟨g1, g2, g3, g4⟩ := G
      simp only at g1 g2 g3
      unfold rs
      simp only
      rw [bK_t]
      cases ok with
      | false => rw [if_neg (by decide), bEq_t rfl, bIn_t (by omega)]
      | true =>
        have g6 := (g4 rfl).2
        simp only at g6
        have R3 := rd_st (b := b) (l := l) R g2 g3
        have L : ∀ most : Nat, most ≤ 120 → mgo (mcall (d + 4 * f + 6)) (mX 58 τ) 58 41 [(26, 24), (0, (r : Int)), (0, (o : Int)), (0, (most : Int)), (0, ((0 : Nat) : Int)), (2, 0)] [] (st w l b τ) = rs w (lp T n (fun a => pr T n f (r + 1) o a) r most b l) τ := fun most hm => lp58 (D := d + 4 * f + 5) h5 hm q (fun a ha => pr_g f (r + 1) o a ha) R most 0 b l (2, 0) (Or.inl rfl) g6 g2 g3 (by omega)
        rw [if_pos rfl, bEq_f (by omega)]
        by_cases h2 : r = 2
        · rw [bEq_t (by omega), if_pos h2]
          exact L 1 (by omega)
        · rw [bEq_f (by omega), if_neg h2, R3.2.2.2.1]
          exact L n R.1
    · have e : r = 5 := by omega
      subst e
      have q := q59 o a τ d ho (by omega) R
      rw [show d + 4 * (f + 1) + 2 = d + 4 * f + 6 from by omega] at q
      rw [bLt_f (by omega), q]
      unfold rs
      rw [bK_t, bIn_t (by split <;> omega)]
/-- a whole expression -/
theorem s_58 {d a : Nat} {τ : mM} (R : rd T n w a τ) : mcall (d + 200) 58 [(26, 24), (0, 0), (0, 0)] τ = rs w (pr T n 48 0 0 a) τ := by
  have := (c58 (T := T) (n := n) (w := w) 48).1 0 0 a τ (d + 5) (by omega) (by omega) (by omega) R
  exact this
end
