/-! PURE PART 70: 'law' answers alike -/
section
variable {σ τ : mM} {k : Nat} {xs : Nat → Int} {N : Int}
theorem RR_24 (R : RR xs N k σ) (x : ∀ a j, ¬ (P2 a j ∨ P4 a j ∨ SC a j) → τ a j = σ a j) (q : ∀ L H n s, G2 σ L H n s → ∃ L', G2 τ L' H n s) (g : G4 τ) : RR xs N (k + 1) τ := by
  obtain ⟨V, L, H, n, s, b, g1, g2, g3, g4, g5, g6, g7, g8⟩ := R
  obtain ⟨L', g2'⟩ := q L H n s g2
  exact ⟨V, L', H, n, s, b, G1_k (by omega) (G1_f (fun a j h => x a j (by unfold P1 P2 P4 SC at *; omega)) g1), g2', G3_k (by omega) (G3_f (fun a j h => x a j (by unfold P2 P4 P3 SC at *; omega)) g3), g, G5_f (fun a j h => x a j (by unfold P2 P4 P5 SC at *; omega)) g5, G6_f (fun a j h => x a j (by unfold P2 P4 P6 SC at *; omega)) g6, G7_f (fun a j h => x a j (by unfold P2 P4 P7 SC at *; omega)) g7, G8_f (fun a j h => x a j (by unfold P2 P4 P8 SC at *; omega)) g8⟩
theorem G4_z (h1 : τ 24 1 = 0) (h2 : τ 64 7 = 0) : G4 τ := ⟨0, by omega, h1, h2, fun i hi => absurd hi (Nat.not_lt_zero i)⟩
/-- what of the law, houses, slip is kept where a law is read -/
theorem G2_law {w w0 : Nat} {μ ν : mM} {L L' : List (List Int × List Int)} {H : Nat → Nat → Int} {n : Nat} {s : Int} (g : G2 σ L H n s) (w1 : w = 10 ∨ w = 17) (w2 : σ 1 7 = (w : Int)) (h2 : ∀ b j, ¬ (b = 24 ∧ 1 ≤ j ∧ j ≤ 3) → ¬ (w ≤ b ∧ b ≤ w + 4) → ¬ (b = 1 ∧ (j = 6 ∨ j = 7)) → μ b j = σ b j) (j2 : ∀ b j, ¬ (b = 64 ∧ (j = 7 ∨ j = 9 ∨ j = 10 ∨ (15 ≤ j ∧ j ≤ 18))) → ¬ (71 ≤ b ∧ b ≤ 78) → ν b j = μ b j) (w4 : w0 = 10 ∨ w0 = 17) (c6 : ν 1 6 = (w0 : Int)) (c7 : (w0 = 10 ∧ ν 1 7 = 17) ∨ (w0 = 17 ∧ ν 1 7 = 10)) (lc : lawC ν w0 0 0 L') (lm : lawM ν 0 0 L') (l9 : ν 64 9 = if L'.length = 0 then 0 else 1) : G2 ν L' H n s := by
  obtain ⟨⟨-, k4, k5, k6, k7⟩, ⟨-, -, e3, e4, e5, e6⟩, -, x4⟩ := g
  have e : ∀ a j, (a = 1 ∧ j < 6) ∨ (7 ≤ a ∧ a ≤ 9) ∨ (a = 64 ∧ j < 7) ∨ (66 ≤ a ∧ a ≤ 70) → ν a j = σ a j := fun a j h => (j2 a j (by omega) (by omega)).trans (h2 a j (by omega) (by omega) (by omega))
  refine ⟨⟨⟨w0, w4, c6, lc⟩, (e _ _ (by omega)).trans k4, k5, fun i hi => ?_, (e _ _ (by omega)).trans k7⟩, ⟨lm, l9, (e _ _ (by omega)).trans e3, e4, fun i hi => ?_, (e _ _ (by omega)).trans e6⟩, ?_, x4⟩
  · rw [e 7 i (by omega), e 8 i (by omega), e 9 i (by omega)]; exact k6 i hi
  · rw [e 68 i (by omega), e 68 (8 + i) (by omega), e 68 (16 + i) (by omega)]; exact e5 i hi
  · omega
theorem r_law : lR := by
  intro xs N k σ hk R
  have R' := R
  obtain ⟨V, L, H, n, s, b, -, g2, -, ⟨t, t1, t2, t3, t4⟩, -⟩ := R
  have g2' := g2
  obtain ⟨⟨⟨w0, k1, k2, k3⟩, -⟩, ⟨e1, e2, -⟩, x3, -⟩ := g2
  have hw : ∃ w : Nat, (w = 10 ∨ w = 17) ∧ σ 1 7 = (w : Int) ∧ ((w0 = 10 ∧ w = 17) ∨ (w0 = 17 ∧ w = 10)) := by
    rcases x3 with ⟨a, c⟩ | ⟨a, c⟩
    · exact ⟨17, Or.inr rfl, c, Or.inl ⟨by omega, rfl⟩⟩
    · exact ⟨10, Or.inl rfl, c, Or.inr ⟨by omega, rfl⟩⟩
  obtain ⟨w, w1, w2, w3⟩ := hw
  obtain ⟨μ, i1, i2, i3, i4, i5⟩ := s_93 (d := 1796) (T := σ 25) t1 w1 w2 (by omega) t2 (fun _ _ => rfl)
  obtain ⟨ν, j1, j2, j3, j4, j5⟩ := s_163 (d := 1937) (T := σ 25) (σ := μ) t1 ((i2 64 7 (by omega) (by omega) (by omega)).trans t3) (fun i hi => (i2 70 i (by omega) (by omega) (by omega)).trans (t4 i hi).1.symm)
  have z24 : ν 24 1 = 0 := (j2 24 1 (by omega) (by omega)).trans i3
  refine ⟨_, μ, ν, i1, j1, RR_24 R' (fun a j h => ?_) (fun L0 H0 n0 s0 q => ?_) (G4_z z24 j3), funext fun j => i2 903 j (by omega) (by omega) (by omega), funext fun j => i2 904 j (by omega) (by omega) (by omega)⟩
  · unfold P2 P4 SC at h
    rw [j2 a j (by omega) (by omega)]
    exact i2 a j (by omega) (by omega) (by omega)
  · have ec : ∀ a, (10 ≤ a ∧ a ≤ 14) ∨ (17 ≤ a ∧ a ≤ 21) → ν a = μ a := fun a ha => funext fun j => j2 a j (by omega) (by omega)
    have c6 : ν 1 6 = μ 1 6 := j2 1 6 (by omega) (by omega)
    have c7 : ν 1 7 = μ 1 7 := j2 1 7 (by omega) (by omega)
    by_cases hp : (pl (σ 25) t (t + 1) 0).1 = true
    · obtain ⟨m1, m2, m3⟩ := i4 hp
      obtain ⟨n1, n2⟩ := j4 hp
      refine ⟨_, G2_law q w1 w2 i2 j2 (w0 := w) w1 (c6.trans m2) ?_ (lawC_g (ec _ (by omega)) (ec _ (by omega)) (ec _ (by omega)) (ec _ (by omega)) (ec _ (by omega)) m1) n1 ?_⟩
      · rw [c7, m3]; omega
      · rw [if_neg (pl_1 t 0 hp)]; exact n2
    · obtain ⟨m2, m3⟩ := i5 hp
      have n1 := j5 hp
      have em : ∀ a, (a = w0 ∨ a = w0 + 1 ∨ a = w0 + 2 ∨ a = w0 + 3 ∨ a = w0 + 4) → μ a = σ a := fun a ha => funext fun j => i2 a j (by omega) (by omega) (by omega)
      have es : ∀ a, (a = w0 ∨ a = w0 + 1 ∨ a = w0 + 2 ∨ a = w0 + 3 ∨ a = w0 + 4) → ν a = σ a := fun a ha => (ec a (by omega)).trans (em a ha)
      have eo : ∀ a j, (a = 64 ∧ (j = 9 ∨ j = 10)) ∨ (71 ≤ a ∧ a ≤ 74) → ν a j = σ a j := fun a j h => (n1 a j h).trans (i2 a j (by omega) (by omega) (by omega))
      refine ⟨L0, ?_⟩
      have q' := q
      obtain ⟨⟨⟨y0, y1, y2, y3⟩, -⟩, ⟨f1, f2, -⟩, -⟩ := q'
      have hy : y0 = w0 := by omega
      subst hy
      exact G2_law q w1 w2 i2 j2 y1 (c6.trans (m2.trans y2)) (by rw [c7, m3]; omega) (lawC_g (es _ (by omega)) (es _ (by omega)) (es _ (by omega)) (es _ (by omega)) (es _ (by omega)) y3) (lawM_g (eo _ _ (by omega)) (funext fun j => eo _ j (by omega)) (funext fun j => eo _ j (by omega)) (funext fun j => eo _ j (by omega)) (funext fun j => eo _ j (by omega)) f1) ((eo _ _ (by omega)).trans f2)
end
