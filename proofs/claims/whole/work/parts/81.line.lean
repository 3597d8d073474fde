/-! PURE PART 58: a line, in the class -/
section
variable {d n a w p : Nat} {T : Nat → Int} {σ τ : mM}
def eP (w : Nat) (q : Int) (σ : mM) : mM := mset (mset (mset σ (w + 3) (σ w 5).toNat (σ w 2)) (w + 4) (σ w 5).toNat q) w 5 (σ w 5 + 1)
theorem s_24 {q : Int} (hq : 0 ≤ q ∧ q < 2) (h5 : σ w 5 = (p : Int)) (hp : p < 120) : mcall (d + 1) 24 [(22, (w : Int)), (0, q)] σ = some (0, eP w q σ) := by
  have e1 : (mset σ (w + 3) ((p : Int)).toNat (σ w 2)) w 5 = (p : Int) := by rw [ms_n (by omega)]; exact h5
  have e2 : (mset (mset σ (w + 3) ((p : Int)).toNat (σ w 2)) (w + 4) ((p : Int)).toNat q) w 5 = (p : Int) := by rw [ms_n (by omega), ms_n (by omega)]; exact h5
  rw [e_24, h5, bLt_t (by omega), bIn_t (by omega), e1, bIn_t (by omega), bIn_t hq, e2, w32_e (by omega)]
  unfold eP
  rw [h5]
theorem rd_p {q : Int} (R : rd T n w a σ) : rd T n w a (eP w q σ) := by
  obtain ⟨r1, r2, r3, r4, r5, r6, r7, r8, r9⟩ := R
  have e : ∀ b j, b ≠ w + 3 → b ≠ w + 4 → (b ≠ w ∨ j ≠ 5) → eP w q σ b j = σ b j := fun b j h1 h2 h3 => by
    unfold eP
    rw [ms_n h3, ms_n (Or.inl h2), ms_n (Or.inl h1)]
  refine ⟨r1, r2, r3, ?_, ?_, ?_, fun i hi => ?_, ?_, ?_⟩
  · rw [e 24 1 (by omega) (by omega) (by omega)]; exact r4
  · rw [e 24 2 (by omega) (by omega) (by omega)]; exact r5
  · rw [e 24 3 (by omega) (by omega) (by omega)]; exact r6
  · rw [e 25 i (by omega) (by omega) (by omega)]; exact r7 i hi
  · rw [e w 2 (by omega) (by omega) (by omega)]; exact r8
  · rw [e w 2 (by omega) (by omega) (by omega)]; exact r9
theorem st_5 {l : List Int} {b : Nat} (hw : w = 10 ∨ w = 17) : st w l b σ w 5 = σ w 5 := by
  unfold st
  rw [ms_n (by omega), em_o (by omega) (by omega) (by omega)]
theorem eP_5 {q : Int} : eP w q σ w 5 = σ w 5 + 1 := by unfold eP; rw [ms_e]
/-- a line's reading -/
theorem s_57 (R : rd T n w a τ) (h5 : τ w 5 = (p : Int)) (hp : p ≤ a) : mcall (d + 202) 57 [(26, 24)] τ = match pr T n 48 0 0 a with
    | (false, b, l) => some (0, st w l b τ)
    | (true, b, A) => if nx T n b = 63 then (match pr T n 48 0 0 (b + 1) with
      | (false, c, l) => some (0, st w l c (eP w 1 (st w A b τ)))
      | (true, c, B) => some (1, eP w 0 (st w B c (eP w 1 (st w A b τ))))) else some (1, eP w 0 (st w A b τ)) := by
  have hw := R.2.2.1
  have n120 := R.1
  have G := pr_g (T := T) 48 0 0 a R.2.1
  have q58 : ∀ (a : Nat) (τ : mM), rd T n w a τ → mcall (d + 201) 58 [(26, 24), (0, 0), (0, 0)] τ = rs w (pr T n 48 0 0 a) τ := fun a τ R => s_58 (d := d + 1) R
  rw [f_57, q58 a τ R]
  rcases hx : pr T n 48 0 0 a with ⟨ok, b, A⟩
  rw [hx] at G
  obtain ⟨g1, g2, g3, g4⟩ := G
  simp only at g1 g2 g3
  unfold rs
  simp only
  rw [bK_t]
  cases ok with
  | false => rw [if_neg (by decide), bEq_t rfl, bIn_t (by omega)]
  | true =>
    have g6 := (g4 rfl).2
    simp only at g6
    have R1 := rd_st (b := b) (l := A) R g2 g3
    have p1 : st w A b τ w 5 = (p : Int) := (st_5 hw).trans h5
    rw [if_pos rfl, bEq_f (by omega), s_63 R1, bK_t]
    by_cases h : nx T n b = 63
    · have hb : b < n := nx_lt (T := T) (by omega)
      have Rp := rd_p (q := 1) R1
      have R2 : rd T n w (b + 1) (st w [] (b + 1) (eP w 1 (st w A b τ))) := rd_st (l := []) Rp hb (by show 0 + b ≤ b + 1; omega)
      have G := pr_g (T := T) 48 0 0 (b + 1) hb
      have sm : mset (eP w 1 (st w A b τ)) 24 2 ((b + 1 : Nat) : Int) = st w [] (b + 1) (eP w 1 (st w A b τ)) := rfl
      simp only [if_pos h]
      rw [bEq_t h, f_57_25, R1.2.2.2.2.2.1, bLt_f (by omega), s_24 (by omega) p1 (by omega), bK_t, bEq_f (by omega), Rp.2.2.2.2.1, w32_n (by omega), sm, q58 (b + 1) _ R2]
      rcases hy : pr T n 48 0 0 (b + 1) with ⟨ok, c, B⟩
      rw [hy] at G
      obtain ⟨k1, k2, k3, k4⟩ := G
      simp only at k1 k2 k3
      unfold rs
      simp only
      rw [bK_t, st_st (by omega), List.nil_append]
      cases ok with
      | false => rw [if_neg (by decide), bEq_t rfl, bIn_t (by omega)]
      | true =>
        have R3 := rd_st (b := c) (l := B) Rp k2 (by omega)
        have p2 : st w B c (eP w 1 (st w A b τ)) w 5 = ((p + 1 : Nat) : Int) := by rw [st_5 hw, eP_5, p1]; rfl
        rw [if_pos rfl, bEq_f (by omega), R3.2.2.2.2.2.1, bLt_f (by omega), s_24 (by omega) p2 (by omega), bK_t, bIn_t (by omega)]
    · simp only [if_neg h]
      rw [bEq_f h, f_57_25, R1.2.2.2.2.2.1, bLt_f (by omega), s_24 (by omega) p1 (by omega), bK_t, bEq_t rfl, bIn_t (by omega)]
end
