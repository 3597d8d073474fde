/-! PURE PART 63: the command 'law' in the class -/
section
variable {d n w : Nat} {T : Nat → Int} {τ : mM}
/-- how it ends: in order with the law, or the place of the fault -/
theorem s_56 (hn : n ≤ 120) (hw : w = 10 ∨ w = 17) (h1 : τ 24 1 = (n : Int)) (hT : ∀ i, i < n → τ 25 i = T i) : ∃ μ, mcall (d + 203) 56 [(26, 24), (22, (w : Int))] τ = some (if (pl T n (n + 1) 0).1 = true then -1 else ((pl T n (n + 1) 0).2.1 : Int), μ) ∧ (∀ b j, ¬ (b = 24 ∧ (j = 2 ∨ j = 3)) → ¬ (w ≤ b ∧ b ≤ w + 4) → μ b j = τ b j) ∧ ((pl T n (n + 1) 0).1 = true → lawC μ w 0 0 (pl T n (n + 1) 0).2.2) := by
  have e3 : (mset τ 24 3 (w : Int)) 24 3 = (w : Int) := ms_e
  have R : rd T n w 0 (mset (mset (mset (mset τ 24 3 (w : Int)) w 2 0) w 5 0) 24 2 0) := by
    refine ⟨hn, Nat.zero_le _, hw, ?_, ms_e, ?_, fun i hi => ?_, ?_, ?_⟩
    · rw [ms_n (by omega), ms_n (by omega), ms_n (by omega), ms_n (by omega)]; exact h1
    · rw [ms_n (by omega), ms_n (by omega), ms_n (by omega), ms_e]
    · rw [ms_n (by omega), ms_n (by omega), ms_n (by omega), ms_n (by omega)]; exact hT i hi
    · rw [ms_n (by omega), ms_n (by omega), ms_e]; exact Int.le_refl _
    · rw [ms_n (by omega), ms_n (by omega), ms_e]; exact Int.le_refl _
  obtain ⟨μ, i1, i2, i3⟩ := l_56 (d := d) (mx := mX 56 τ) (n + 1) 0 0 _ [] 0 0 (by omega) R ⟨rfl, rfl⟩ (by rw [ms_n (by omega), ms_n (by omega), ms_e]; rfl) (by rw [ms_n (by omega), ms_e]; rfl) (Nat.le_refl _)
  refine ⟨μ, ?_, fun b j q1 q2 => ?_, i3⟩
  · rw [e_56, e3, bLt_f (by omega), e_22, bK_t]
    exact i1
  · rw [i2 b j (by omega) q2, ms_n (by omega), ms_n (by omega), ms_n (by omega), ms_n (by omega)]
end
