/-! PURE PART 47: the start -/
section
variable {w : mW}
theorem mI0_905 {i : Nat} : mI0 w 905 i = 0 := by
  unfold mI0
  rw [if_neg (by omega), if_neg (by omega)]
theorem mI0_b {a j : Nat} (h : a < 900) : mI0 w a j = 0 := by
  unfold mI0
  rw [if_neg (by omega), if_neg (by omega)]
theorem made (g : mG) : ∃ σ : mM, mblk (mcall 2000) (600000, 7302250) 230 g [18] 999 0 [(4, 903), (2, 0), (2, 0), (2, 0)] [] (mI0 w) = g 18 [(4, 903), (29, 0), (30, 64), (0, 0)] [] σ ∧ (∀ a j, a < 95 → σ a j = Tn 6 6 a j) ∧ σ 905 0 = ((95 : Nat) : Int) ∧ ∀ a j, 95 ≤ a → a ≠ 905 → σ a j = mI0 w a j := by
  have e := e_230 (mcall 2000) (600000, 7302250) g (mI0 w)
  have z0 : mI0 w 905 0 = ((0 : Nat) : Int) := mI0_905
  have y0 : mI0 w 905 1 = ((0 : Nat) : Int) := mI0_905
  have n0 : nO 9 9 (600000, 7302250) (mI0 w) = fun F => F ((0 : Nat) : Int) (mnew (mI0 w) (20 + 9) 9) := by
    funext F
    have hz : mz (mI0 w) 0 = 0 := by unfold mz; rw [z0]; rfl
    unfold nO
    rw [hz, z0, y0, if_pos ⟨rfl, by show ((0 : Nat) : Int) + 1 ≤ 600000; omega, by show ((0 : Nat) : Int) + ((9 : Nat) : Int) ≤ 7302250; omega⟩]
  rw [n0] at e
  have w0 : (mnew (mI0 w) (20 + 9) 9) 905 0 = ((1 : Nat) : Int) := nw_0 z0 (by omega)
  have w1 : (mnew (mI0 w) (20 + 9) 9) 905 1 = ((0 + 9 : Nat) : Int) := nw_1 z0 y0 (by omega)
  obtain ⟨μ1, S1, c1, g1, f1⟩ := k_87_0 (q := 0) (d := 1997) (y := 9) (σ := mnew (mI0 w) (20 + 9) 9) w0 w1 (fun j => nw_e z0)
  replace c1 : mcall 2000 87 [(29, ((0 : Nat) : Int))] (mnew (mI0 w) (20 + 9) 9) = some (0, μ1) := c1
  simp only at e
  rw [c1, bK_t, nC_t (z := 1) (y := 9) w0 w1 g1.1 g1.2.1 (by show ((64 : Nat) : Int) ≤ 600000; omega) (by show ((2468 : Nat) : Int) ≤ 7302250; omega), nO_t g1 (by rfl) (by show ((64 : Nat) : Int) + 1 ≤ 600000; omega) (by show ((2468 : Nat) : Int) + ((44 : Nat) : Int) ≤ 7302250; omega)] at e
  have v0 : (mnew μ1 (20 + 10) 44) 905 0 = ((65 : Nat) : Int) := nw_0 g1.1 (by omega)
  have v1 : (mnew μ1 (20 + 10) 44) 905 1 = ((2512 : Nat) : Int) := nw_1 g1.1 g1.2.1 (by omega)
  obtain ⟨μ2, S2, c2, g2, f2⟩ := k_132_64 (p := 6) (d := 1999) (y := 2512) (σ := mnew μ1 (20 + 10) 44) v0 v1 (fun j => nw_e g1.1)
  replace c2 : mcall 2000 132 [(30, ((64 : Nat) : Int))] (mnew μ1 (20 + 10) 44) = some (0, μ2) := c2
  rw [c2, bK_t, nC_t (z := 65) (y := 2512) v0 v1 g2.1 g2.2.1 (by show ((95 : Nat) : Int) ≤ 600000; omega) (by show ((4672 : Nat) : Int) ≤ 7302250; omega)] at e
  refine ⟨μ2, e, fun a j ha => ?_, g2.1, fun a j h1 h2 => ?_⟩
  · by_cases h64 : a = 64
    · rw [h64]; exact f2 j
    · by_cases hl : a < 64
      · rw [g2.2.2.1 a j (by omega) h64 (by omega), nw_o g1.1 (by omega) (by omega), Tn_q (q' := 0) (by omega)]
        by_cases h0 : a = 0
        · rw [h0]; exact f1 j
        · exact g1.2.2.2.1 a j (by omega) hl
      · exact g2.2.2.2.1 a j (by omega) (by omega)
  · rw [g2.2.2.1 a j h2 (by omega) (by omega), nw_o g1.1 (by omega) h2, g1.2.2.1 a j h2 (by omega) (by omega), nw_o z0 (by omega) h2]
theorem made_X {σ : mM} (h : ∀ a j, a < 95 → σ a j = Tn 6 6 a j) (hz : σ 905 0 = ((95 : Nat) : Int)) : mFX σ := by
  have z : mz σ 0 = 95 := by unfold mz; rw [hz]; rfl
  unfold mFX
  rw [z]
  refine ⟨fun c hc hl k r hr => ?_, fun c hc hl j hj => ?_, rfl⟩
  · rw [h c k hc]
    by_cases hk : k < 50
    · have key : ∀ c, c < 95 → ∀ k, k < 50 → ((mlay c < 1000 → ∀ r, mfx (mlay c - 20) k = some r → Tn 6 6 c k = (c : Int) + r ∧ 0 ≤ Tn 6 6 c k)) := by
        have b : ((List.range 95).all fun c => (List.range 50).all fun k => !(Nat.blt (mlay c) 1000) || match mfx (mlay c - 20) k with | some r => decide (Tn 6 6 c k = (c : Int) + r) && decide (0 ≤ Tn 6 6 c k) | none => true) = true := by decide +kernel
        intro c hc k hk hl r hr
        have b1 := List.all_eq_true.mp (List.all_eq_true.mp b c (List.mem_range.mpr hc)) k (List.mem_range.mpr hk)
        rw [hr, show (Nat.blt (mlay c) 1000) = true from by rw [Nat.blt_eq]; exact hl] at b1
        simp only [Bool.not_true, Bool.false_or, Bool.and_eq_true, decide_eq_true_eq] at b1
        exact b1
      exact key c hc k hk hl r hr
    · rw [mfx_n (by omega)] at hr; cases hr
  · rw [h c j hc]
    have key : ∀ c, c < 95 → mlay c = 9006 → c = 46 := by decide +kernel
    have := key c hc hl
    subst this
    unfold Tn
    rw [if_pos ⟨rfl, hj⟩]
    omega
end
