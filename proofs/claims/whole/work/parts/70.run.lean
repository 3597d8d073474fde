/-! PURE PART 48: the start, and the run -/
section
variable {w : mW}
theorem made_R {σ : mM} (h : ∀ a j, a < 95 → σ a j = Tn 6 6 a j) (hB : ∀ a j, 95 ≤ a → a ≠ 905 → σ a j = mI0 w a j) (h0 : ∀ j, mex w 0 j = mC0 j) (h1 : ∀ j, mex w 1 j = mC1 j) (h2 : ∀ j, mex w 2 j = mC2 j) : RR (mex w 3) (mel w 3 : Int) 0 σ := by
  have T : ∀ a j v, a < 95 → Tn 6 6 a j = v → σ a j = v := fun a j v ha e => (h a j ha).trans e
  refine ⟨fun _ _ => 0, [], fun _ _ => 0, 0, 0, 0, ⟨?_, ?_, ⟨fun _ _ _ => rfl, fun _ => ⟨by show (0 : Int) ≤ 0; omega, by show (0 : Int) ≤ 4; omega⟩, fun _ => ⟨by show (0 : Int) ≤ 0; omega, by show (0 : Int) ≤ 9; omega⟩, fun _ => ⟨by show (0 : Int) ≤ 0; omega, by show (0 : Int) ≤ 12; omega⟩, by show (0 : Int) ≤ 0; omega, by show (0 : Int) ≤ 11; omega, by show (0 : Int) ≤ 0; omega, by show (0 : Int) ≤ 1000000; omega⟩, Int.le_refl _, fun j h1 h5 => ?_, T 81 0 0 (by omega) rfl⟩, ⟨⟨⟨10, Or.inl rfl, T 1 6 10 (by omega) rfl, T 10 5 0 (by omega) rfl, by omega⟩, T 1 4 0 (by omega) rfl, by omega, fun i hi => absurd hi (by omega), T 1 5 0 (by omega) rfl⟩, ⟨⟨T 64 10 0 (by omega) rfl, by omega⟩, T 64 9 0 (by omega) rfl, T 64 3 0 (by omega) rfl, by omega, fun i hi => absurd hi (by omega), T 69 1 0 (by omega) rfl⟩, Or.inl ⟨T 1 6 10 (by omega) rfl, T 1 7 17 (by omega) rfl⟩, by omega, by omega⟩, Or.inl ⟨T 0 8 0 (by omega) rfl, T 64 26 0 (by omega) rfl⟩, ⟨0, by omega, T 24 1 0 (by omega) rfl, T 64 7 0 (by omega) rfl, fun i hi => absurd hi (by omega)⟩, ⟨fun _ => -2, fun _ => 0, fun _ _ => 0, fun _ => 0, fun k hk => ?_, fun k hk => ?_, fun k hk q => absurd (show (-2 : Int) = -1 from q) (by decide)⟩, ⟨0, 0, by omega, T 38 4 0 (by omega) rfl, T 38 5 0 (by omega) rfl, T 64 30 0 (by omega) rfl, T 64 29 0 (by omega) rfl, fun i hi => absurd hi (by omega)⟩, ⟨T 43 1 0 (by omega) rfl, T 64 32 0 (by omega) rfl, by omega, fun i hi => absurd hi (by omega), 0, by omega, T 43 3 0 (by omega) rfl, T 64 34 0 (by omega) rfl, fun i hi => absurd hi (by omega)⟩, fun j => ?_, fun j => ?_, fun j => ?_, fun j => ?_, ?_⟩
  · funext k j
    unfold gC gL
    rw [T 3 j 0 (by omega) rfl, T 4 j 0 (by omega) rfl, T 5 j 0 (by omega) rfl, T 2 4 0 (by omega) rfl, T 6 0 0 (by omega) rfl]
    repeat' split
    all_goals rfl
  · funext k j
    unfold gM gL
    rw [T 65 j 0 (by omega) rfl, T 66 j 0 (by omega) rfl, T 67 j 0 (by omega) rfl, T 69 0 0 (by omega) rfl, T 64 6 0 (by omega) rfl]
    repeat' split
    all_goals rfl
  · rw [T 6 j 0 (by omega) rfl, T 81 j 0 (by omega) rfl]
  · rcases (by omega : k = 0 ∨ k = 1 ∨ k = 2 ∨ k = 3 ∨ k = 4 ∨ k = 5) with rfl | rfl | rfl | rfl | rfl | rfl
    · exact ⟨T 47 1 (-2) (by omega) rfl, T 47 2 0 (by omega) rfl, Nat.zero_le _, fun i hi => absurd hi (Nat.not_lt_zero _), fun q => absurd (show (-2 : Int) = -1 from q) (by decide)⟩
    · exact ⟨T 49 1 (-2) (by omega) rfl, T 49 2 0 (by omega) rfl, Nat.zero_le _, fun i hi => absurd hi (Nat.not_lt_zero _), fun q => absurd (show (-2 : Int) = -1 from q) (by decide)⟩
    · exact ⟨T 51 1 (-2) (by omega) rfl, T 51 2 0 (by omega) rfl, Nat.zero_le _, fun i hi => absurd hi (Nat.not_lt_zero _), fun q => absurd (show (-2 : Int) = -1 from q) (by decide)⟩
    · exact ⟨T 53 1 (-2) (by omega) rfl, T 53 2 0 (by omega) rfl, Nat.zero_le _, fun i hi => absurd hi (Nat.not_lt_zero _), fun q => absurd (show (-2 : Int) = -1 from q) (by decide)⟩
    · exact ⟨T 55 1 (-2) (by omega) rfl, T 55 2 0 (by omega) rfl, Nat.zero_le _, fun i hi => absurd hi (Nat.not_lt_zero _), fun q => absurd (show (-2 : Int) = -1 from q) (by decide)⟩
    · exact ⟨T 57 1 (-2) (by omega) rfl, T 57 2 0 (by omega) rfl, Nat.zero_le _, fun i hi => absurd hi (Nat.not_lt_zero _), fun q => absurd (show (-2 : Int) = -1 from q) (by decide)⟩
  · refine ⟨Or.inl ⟨rfl, T 87 k (-1) (by omega) ?_⟩, T 88 k 0 (by omega) rfl, Nat.zero_le _, fun i hi => absurd hi (Nat.not_lt_zero _)⟩
    unfold Tn
    rw [if_neg (by omega), if_pos ⟨rfl, hk⟩]
  · rw [hB 900 j (by omega) (by omega)]; unfold mI0; rw [if_pos (by omega)]; exact h0 j
  · rw [hB 901 j (by omega) (by omega)]; unfold mI0; rw [if_pos (by omega)]; exact h1 j
  · rw [hB 902 j (by omega) (by omega)]; unfold mI0; rw [if_pos (by omega)]; exact h2 j
  · rw [hB 903 j (by omega) (by omega)]; unfold mI0; rw [if_pos (by omega)]
  · rw [hB 904 0 (by omega) (by omega)]; unfold mI0; rw [if_neg (by omega), if_pos ⟨rfl, rfl⟩]
/-- the law's run, given that 'law' answers alike -/
theorem the_run (hlaw : lR) (hN : mel w 3 ≤ 3072) (hx : ∀ j, -2147483648 ≤ mex w 3 j ∧ mex w 3 j < 2147483648) (h0 : ∀ j, mex w 0 j = mC0 j) (h1 : ∀ j, mex w 1 j = mC1 j) (h2 : ∀ j, mex w 2 j = mC2 j) : ∃ n σ', mblk (mcall 2000) (600000, 7302250) 230 (mgL (mcall 2000) (600000, 7302250)) [18] n 0 [(4, 903), (2, 0), (2, 0), (2, 0)] [] (mI0 w) = some (1, σ') := by
  obtain ⟨σ, e, a, b, c⟩ := made (w := w) (mgL (mcall 2000) (600000, 7302250))
  obtain ⟨σ', l⟩ := l_loop (mx := (600000, 7302250)) (Nn := mel w 3) (xs := mex w 3) hlaw hN hx 513 0 0 σ (by omega) (by omega) (by omega) (made_R a c h0 h1 h2)
  refine ⟨999, σ', e.trans ?_⟩
  unfold mgL
  rw [if_pos (made_X a b)]
  exact l
end
