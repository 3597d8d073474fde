/-! PURE PART 59: a line, in the model -/
section
variable {d n a i : Nat} {T : Nat → Int} {σ τ : mM} {K : mK} {mx : Int × Int}
def fL (i : Nat) (σ : mM) : mM := mset (mset σ 64 18 ((i + 1 : Nat) : Int)) 77 i (σ 64 17)
theorem f71 (h : σ 64 18 = (i : Int)) (hi : i < 61) : mgo K mx 162 71 [(30, 64)] [] σ = some (1, fL i σ) := by
  rw [f_162_71, h, bIn_t (by omega), bIn_t (by omega), w32_n (by omega), ms_n (σ := σ) (by omega)]
  rfl
theorem rM_7 {c : Nat} {v : Int} {o : Nat} (R : rM T n a o σ) (hc : c = 75 ∨ c = 76 ∨ c = 77) {j : Nat} : rM T n a o (mset σ c j v) := by
  obtain ⟨r1, r2, r3, r4, r5, r6, r7, r8, r9⟩ := R
  refine ⟨r1, r2, r3, ?_, ?_, ?_, fun i hi => ?_, ?_, ?_⟩
  · rw [ms_n (by omega)]; exact r4
  · rw [ms_n (by omega)]; exact r5
  · rw [ms_n (by omega)]; exact r6
  · rw [ms_n (by omega)]; exact r7 i hi
  · rw [ms_n (by omega)]; exact r8
  · rw [ms_n (by omega)]; exact r9
theorem sM_18 {l : List Int} {b p c j : Nat} (h : c ≠ 78) (h2 : c ≠ 64 ∨ (j ≠ 15 ∧ j ≠ 16 ∧ j ≠ 17)) : sM l b p σ c j = σ c j := by
  unfold sM
  rw [ms_n (by omega), ms_n (by omega), eM_o h (by omega)]
def m1L (i : Nat) (σ : mM) : mM := mset σ 75 i (σ 64 17)
def m2L (i : Nat) (σ : mM) : mM := mset σ 76 i (σ 75 i)
def m3L (i : Nat) (σ : mM) : mM := mset σ 76 i (σ 64 17)
theorem s_162 (R : rM T n a 0 τ) (h : τ 64 18 = (i : Int)) (hi : i < 61) : mcall (d + 62) 162 [(30, 64)] τ = match pr T n 48 0 0 a with
    | (false, b, l) => some (0, sM l b 0 (m1L i τ))
    | (true, b, A) => if nx T n b = 63 then (match pr T n 48 0 0 (b + 1) with
      | (false, c, l) => some (0, sM l c 0 (m3L i (sM [] (b + 1) 0 (m2L i (sM A b 0 (m1L i τ))))))
      | (true, c, B) => some (1, fL i (sM B c 0 (m3L i (sM [] (b + 1) 0 (m2L i (sM A b 0 (m1L i τ)))))))) else some (1, fL i (m2L i (sM A b 0 (m1L i τ)))) := by
  have n120 := R.1
  have G := pr_g (T := T) 48 0 0 a R.2.1
  have q : ∀ (a : Nat) (τ : mM), rM T n a 0 τ → mcall (d + 61) 161 [(30, 64)] τ = rsM 0 (pr T n 48 0 0 a) τ := fun a τ R => s_161 (d := d + 1) R
  have R1 : rM T n a 0 (m1L i τ) := rM_7 R (by omega)
  have k1 : m1L i τ 64 18 = (i : Int) := by unfold m1L; rw [ms_n (by omega)]; exact h
  rw [f_162, h, bIn_t (by omega), tn_n]
  show bK (mcall (d + 61) 161 [(30, 64)] (m1L i τ)) _ = _
  rw [q a _ R1]
  rcases hx : pr T n 48 0 0 a with ⟨ok, b, A⟩
  rw [hx] at G
  obtain ⟨g1, g2, g3, g4⟩ := G
  simp only at g1 g2 g3
  unfold rsM
  simp only
  rw [bK_t]
  cases ok with
  | false => rw [if_neg (by decide), bEq_t rfl, bIn_t (by omega)]
  | true =>
    have R2 : rM T n b 0 (sM A b 0 (m1L i τ)) := rM_s R1 g2 g3 (by omega)
    have k2 : sM A b 0 (m1L i τ) 64 18 = (i : Int) := (sM_18 (by omega) (by omega)).trans k1
    have R3 : rM T n b 0 (m2L i (sM A b 0 (m1L i τ))) := rM_7 R2 (by omega)
    have k3 : m2L i (sM A b 0 (m1L i τ)) 64 18 = (i : Int) := by unfold m2L; rw [ms_n (by omega)]; exact k2
    rw [if_pos rfl, bEq_f (by omega), k2, bIn_t (by omega), bIn_t (by omega), tn_n]
    show bK (mcall (d + 61) 152 [(30, 64), (0, 63)] (m2L i (sM A b 0 (m1L i τ)))) _ = _
    rw [s_152 R3]
    by_cases h6 : nx T n b = 63
    · have hb : b < n := nx_lt (T := T) (by omega)
      have R4 : rM T n (b + 1) 0 (sM [] (b + 1) 0 (m2L i (sM A b 0 (m1L i τ)))) := rM_s R3 hb (by show 0 + b ≤ b + 1; omega) (by omega)
      have k4 : sM [] (b + 1) 0 (m2L i (sM A b 0 (m1L i τ))) 64 18 = (i : Int) := (sM_18 (by omega) (by omega)).trans k3
      have R5 : rM T n (b + 1) 0 (m3L i (sM [] (b + 1) 0 (m2L i (sM A b 0 (m1L i τ))))) := rM_7 R4 (by omega)
      have k5 : m3L i (sM [] (b + 1) 0 (m2L i (sM A b 0 (m1L i τ)))) 64 18 = (i : Int) := by unfold m3L; rw [ms_n (by omega)]; exact k4
      have G := pr_g (T := T) 48 0 0 (b + 1) hb
      simp only [if_pos h6]
      rw [bK_t, bEq_f (by omega), k4, bIn_t (by omega), tn_n]
      show bK (mcall (d + 61) 161 [(30, 64)] (m3L i (sM [] (b + 1) 0 (m2L i (sM A b 0 (m1L i τ)))))) _ = _
      rw [q (b + 1) _ R5]
      rcases hy : pr T n 48 0 0 (b + 1) with ⟨ok, c, B⟩
      unfold rsM
      simp only
      rw [bK_t]
      cases ok with
      | false => rw [if_neg (by decide), bEq_t rfl, bIn_t (by omega)]
      | true => rw [if_pos rfl, bEq_f (by omega), f71 ((sM_18 (by omega) (by omega)).trans k5) (by omega)]
    · simp only [if_neg h6]
      rw [bK_t, bEq_t rfl, f71 k3 (by omega)]
end
