/-! PURE PART 66: a line in order, in the model -/
section
variable {d n a o i : Nat} {T : Nat → Int} {σ τ μ : mM}
theorem sM_r {l : List Int} {b p c j : Nat} (h : 75 ≤ c ∧ c ≤ 77) : sM l b p σ c j = σ c j := sM_18 (by omega) (by omega)
theorem rM_f (R : rM T n a o σ) : rM T n a o (fL i σ) := by
  have R' : rM T n a o (mset σ 64 18 ((i + 1 : Nat) : Int)) := by
    obtain ⟨r1, r2, r3, r4, r5, r6, r7, r8, r9⟩ := R
    refine ⟨r1, r2, r3, ?_, ?_, ?_, fun i hi => ?_, ?_, ?_⟩
    · rw [ms_n (by omega)]; exact r4
    · rw [ms_n (by omega)]; exact r5
    · rw [ms_n (by omega)]; exact r6
    · rw [ms_n (by omega)]; exact r7 i hi
    · rw [ms_n (by omega)]; exact r8
    · rw [ms_n (by omega)]; exact r9
  exact rM_7 R' (by omega)
theorem fL_o {c j : Nat} (h1 : ¬ (c = 64 ∧ j = 18)) (h2 : ¬ (c = 77 ∧ j = i)) : fL i σ c j = σ c j := by
  unfold fL
  rw [ms_n (by omega), ms_n (by omega)]
theorem s_162k (R : rM T n a 0 τ) (h17 : τ 64 17 = (o : Int)) (h18 : τ 64 18 = (i : Int)) (hi : i < 61) : ∃ μ, mcall (d + 62) 162 [(30, 64)] τ = some (if (ln T n a).1 = true then 1 else 0, μ) ∧ fy τ μ ∧ μ 64 15 = ((ln T n a).2.1 : Int) ∧ ((ln T n a).1 = true → ∃ o', o ≤ o' ∧ rM T n (ln T n a).2.1 0 μ ∧ μ 64 17 = (o' : Int) ∧ μ 64 18 = ((i + 1 : Nat) : Int) ∧ lawO μ o i [((ln T n a).2.2.1, (ln T n a).2.2.2)] o' (i + 1) ∧ (∀ j, j < o → μ 78 j = τ 78 j) ∧ ∀ j, j < i → μ 75 j = τ 75 j ∧ μ 76 j = τ 76 j ∧ μ 77 j = τ 77 j) := by
  have G := pr_g (T := T) 48 0 0 a R.2.1
  have s := s_162 (d := d) R h18 hi
  have R1 : rM T n a 0 (m1L i τ) := rM_7 R (by omega)
  have o1 : m1L i τ 64 17 = (o : Int) := (ms_n (by omega)).trans h17
  have v1 : m1L i τ 75 i = (o : Int) := ms_e.trans h17
  unfold ln
  rcases hx : pr T n 48 0 0 a with ⟨ok, b, A⟩
  rw [hx] at G s
  obtain ⟨g1, g2, g3, g4⟩ := G
  simp only at g1 g2 g3 g4
  have e15 : ∀ (l : List Int) (b : Nat) (σ : mM), sM l b 0 σ 64 15 = (b : Int) := fun l b σ => by
    unfold sM
    rw [ms_n (by omega), ms_e]
  cases ok with
  | false => exact ⟨_, s, fy_t mL_fy.1 sM_fy, e15 _ _ _, fun z => by cases z⟩
  | true =>
    obtain ⟨g5, g6⟩ := g4 rfl
    have R2 : rM T n b 0 (sM A b 0 (m1L i τ)) := rM_s R1 g2 g3 (by omega)
    have o2 : sM A b 0 (m1L i τ) 64 17 = ((o + A.length : Nat) : Int) := by rw [sM_17, o1]; rfl
    have v2 : sM A b 0 (m1L i τ) 75 i = (o : Int) := (sM_r (by omega)).trans v1
    have R3 : rM T n b 0 (m2L i (sM A b 0 (m1L i τ))) := rM_7 R2 (by omega)
    have o3 : m2L i (sM A b 0 (m1L i τ)) 64 17 = ((o + A.length : Nat) : Int) := (ms_n (by omega)).trans o2
    have F2 := fy_t (mL_fy (i := i) (σ := τ)).1 (fy_t (sM_fy (l := A) (b := b) (p := 0)) (mL_fy (i := i)).2.1)
    by_cases h : nx T n b = 63
    · have hb : b < n := nx_lt (T := T) (by omega)
      have G := pr_g (T := T) 48 0 0 (b + 1) hb
      simp only [if_pos h] at s ⊢
      rcases hy : pr T n 48 0 0 (b + 1) with ⟨ok, c, B⟩
      rw [hy] at G s
      obtain ⟨k1, k2, k3, k4⟩ := G
      simp only at k1 k2 k3 k4
      have F3 := fy_t F2 (fy_t (sM_fy (l := []) (b := b + 1) (p := 0)) (mL_fy (i := i)).2.2.1)
      cases ok with
      | false => exact ⟨_, s, fy_t F3 sM_fy, e15 _ _ _, fun z => by cases z⟩
      | true =>
        obtain ⟨k5, k6⟩ := k4 rfl
        have R4 : rM T n (b + 1) 0 (sM [] (b + 1) 0 (m2L i (sM A b 0 (m1L i τ)))) := rM_s R3 hb (by show 0 + b ≤ b + 1; omega) (by omega)
        have o4 : sM [] (b + 1) 0 (m2L i (sM A b 0 (m1L i τ))) 64 17 = ((o + A.length : Nat) : Int) := by rw [sM_17, o3]; rfl
        have R5 : rM T n (b + 1) 0 (m3L i (sM [] (b + 1) 0 (m2L i (sM A b 0 (m1L i τ))))) := rM_7 R4 (by omega)
        have o5 : m3L i (sM [] (b + 1) 0 (m2L i (sM A b 0 (m1L i τ)))) 64 17 = ((o + A.length : Nat) : Int) := (ms_n (by omega)).trans o4
        have R6 : rM T n c 0 (sM B c 0 (m3L i (sM [] (b + 1) 0 (m2L i (sM A b 0 (m1L i τ)))))) := rM_s R5 k2 k3 (by omega)
        have o6 : sM B c 0 (m3L i (sM [] (b + 1) 0 (m2L i (sM A b 0 (m1L i τ))))) 64 17 = ((o + A.length + B.length : Nat) : Int) := by rw [sM_17, o5]; rfl
        have c78 : ∀ j, j < o + A.length → fL i (sM B c 0 (m3L i (sM [] (b + 1) 0 (m2L i (sM A b 0 (m1L i τ)))))) 78 j = sM A b 0 (m1L i τ) 78 j := fun j hj => by
          rw [fL_o (by omega) (by omega), sM_lo o5 j hj]
          show mset (sM [] (b + 1) 0 (m2L i (sM A b 0 (m1L i τ)))) 76 i _ 78 j = _
          rw [ms_n (by omega), sM_lo o3 j hj]
          exact ms_n (by omega)
        refine ⟨_, s, fy_t F3 (fy_t sM_fy mL_fy.2.2.2), ?_, fun _ => ⟨o + A.length + B.length, by omega, rM_f R6, ?_, ?_, ⟨?_, ?_, ?_, ?_, ?_, Or.inr (vE_0 g5), vE_0 k5, rfl, rfl⟩, fun j hj => ?_, fun j hj => ⟨?_, ?_, ?_⟩⟩⟩
        · rw [fL_o (by omega) (by omega)]; exact e15 _ _ _
        · rw [fL_o (by omega) (by omega)]; exact o6
        · unfold fL; rw [ms_n (by omega), ms_e]
        · rw [fL_o (by omega) (by omega), sM_r (by omega)]
          show mset _ 76 i _ 75 i = _
          rw [ms_n (by omega), sM_r (by omega)]
          exact (ms_n (by omega)).trans v2
        · rw [fL_o (by omega) (by omega), sM_r (by omega)]
          exact ms_e.trans o4
        · unfold fL; rw [ms_e]; exact o6
        · exact segM_l (m := o + A.length) (Nat.le_refl _) c78 (sM_seg o1)
        · exact segM_l (m := o + A.length + B.length) (Nat.le_refl _) (fun j _ => fL_o (by omega) (by omega)) (sM_seg o5)
        · exact (c78 j (by omega)).trans ((sM_lo o1 j hj).trans (ms_n (by omega)))
        · rw [fL_o (by omega) (by omega), sM_r (by omega)]
          show mset _ 76 i _ 75 j = _
          rw [ms_n (by omega), sM_r (by omega)]
          show mset _ 76 i _ 75 j = _
          rw [ms_n (by omega), sM_r (by omega)]
          exact ms_n (by omega)
        · rw [fL_o (by omega) (by omega), sM_r (by omega)]
          show mset _ 76 i _ 76 j = _
          rw [ms_n (by omega), sM_r (by omega)]
          show mset _ 76 i _ 76 j = _
          rw [ms_n (by omega), sM_r (by omega)]
          exact ms_n (by omega)
        · rw [fL_o (by omega) (by omega), sM_r (by omega)]
          show mset _ 76 i _ 77 j = _
          rw [ms_n (by omega), sM_r (by omega)]
          show mset _ 76 i _ 77 j = _
          rw [ms_n (by omega), sM_r (by omega)]
          exact ms_n (by omega)
    · simp only [if_neg h] at s ⊢
      have c78 : ∀ j, fL i (m2L i (sM A b 0 (m1L i τ))) 78 j = sM A b 0 (m1L i τ) 78 j := fun j => by
        rw [fL_o (by omega) (by omega)]
        exact ms_n (by omega)
      refine ⟨_, s, fy_t F2 mL_fy.2.2.2, ?_, fun _ => ⟨o + 0 + A.length, by omega, rM_f R3, ?_, ?_, ⟨?_, ?_, ?_, trivial, ?_, Or.inl rfl, vE_0 g5, rfl, rfl⟩, fun j hj => ?_, fun j hj => ⟨?_, ?_, ?_⟩⟩⟩
      · rw [fL_o (by omega) (by omega)]
        exact (ms_n (by omega)).trans (e15 _ _ _)
      · rw [fL_o (by omega) (by omega)]; exact o3
      · unfold fL; rw [ms_n (by omega), ms_e]
      · rw [fL_o (by omega) (by omega)]
        exact (ms_n (by omega)).trans v2
      · rw [fL_o (by omega) (by omega)]
        exact ms_e.trans v2
      · unfold fL; rw [ms_e]; exact o3
      · exact segM_l (m := o + A.length) (Nat.le_refl _) (fun j _ => c78 j) (sM_seg o1)
      · exact (c78 j).trans ((sM_lo o1 j hj).trans (ms_n (by omega)))
      · rw [fL_o (by omega) (by omega)]
        show mset _ 76 i _ 75 j = _
        rw [ms_n (by omega), sM_r (by omega)]
        exact ms_n (by omega)
      · rw [fL_o (by omega) (by omega)]
        show mset _ 76 i _ 76 j = _
        rw [ms_n (by omega), sM_r (by omega)]
        exact ms_n (by omega)
      · rw [fL_o (by omega) (by omega)]
        show mset _ 76 i _ 77 j = _
        rw [ms_n (by omega), sM_r (by omega)]
        exact ms_n (by omega)
end
