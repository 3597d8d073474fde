/-! PURE PART 54: reading, in the model: operands -/
section
variable {d n a o : Nat} {T : Nat → Int} {σ τ : mM} {K : mK} {mx : Int × Int}
theorem f214 {l : List Int} {b : Nat} {v z : Int} (ho : o ≤ 6) (hz : 0 ≤ z ∧ z < 2) : mgo K mx 156 214 [(30, 64), (0, v), (0, z)] [] (sM l b (o + 1) σ) = some (z, sM l b o σ) := by
  have e : sM l b (o + 1) σ 64 16 = ((o + 1 : Nat) : Int) := ms_e
  rw [f_156_214, bIn_t hz, e, w32_e (by omega), show ((o + 1 : Nat) : Int) - 1 = (o : Int) from by omega, sM_b]
theorem sM_17 {l : List Int} {b p : Nat} : sM l b p σ 64 17 = σ 64 17 + (l.length : Int) := by
  unfold sM
  rw [ms_n (by omega), ms_n (by omega), eM_c]
theorem m156 {f D : Nat} (R : rM T n a o σ) (h161 : o < 6 → ∀ a τ, rM T n a (o + 1) τ → mcall (D + 2) 161 [(30, 64)] τ = rsM (o + 1) (pr T n f 0 (o + 1) a) τ) (h156 : o < 6 → ∀ a τ, rM T n a (o + 1) τ → mcall (D + 2) 156 [(30, 64)] τ = rsM (o + 1) (pr T n f 5 (o + 1) a) τ) : mcall (D + 3) 156 [(30, 64)] σ = rsM o (pr T n (f + 1) 5 o a) σ := by
  have n120 := R.1
  have ra := R.2.1
  have o6 := R.2.2.1
  have c0 := R.2.2.2.2.2.2.2.1
  have c1 := R.2.2.2.2.2.2.2.2
  have e15 := R.2.2.2.2.1
  have e16 := R.2.2.2.2.2.1
  have s0 : sM [] a o σ = σ := sM_0 e15 e16
  have s1 : ∀ c : Nat, mset σ 64 15 (c : Int) = sM [] c o σ := fun c => by
    have := sM_a (l := []) (b := a) (c := c) (o := o) (σ := σ)
    rw [s0] at this
    exact this
  have s2 : mset σ 64 16 ((o + 1 : Nat) : Int) = sM [] a (o + 1) σ := by
    have := sM_b (l := []) (b := a) (o := o) (p := o + 1) (σ := σ)
    rw [s0] at this
    exact this
  rw [f_156, s_154 R, bK_t]
  unfold pr
  rw [if_neg (show ¬ 5 < 5 by omega)]
  by_cases hd : 48 ≤ nx T n a ∧ nx T n a ≤ 57
  · have l := l_156 (d := D) (mx := mX 156 σ) R 4 0 a 0 (by omega) (Nat.le_refl _) ra (by omega) (by decide)
    rw [s0] at l
    rw [if_pos hd, if_pos hd, bEq_f (by omega)]
    exact l
  rw [if_neg hd, if_neg hd, bEq_t rfl, s_151 R, bK_t, s_155, bK_t]
  by_cases hm : 0 ≤ nmO (nx T n a)
  · rw [bLt_f (by omega), if_pos hm, e15, w32_n (by omega), s1, s_153 (by rw [sM_17]; show 0 ≤ σ 64 17 + ((0 : Nat) : Int); omega) (by rw [sM_17]; show σ 64 17 + ((0 : Nat) : Int) < 200; omega), bK_t, bIn_t (by omega), sM_1]
    rfl
  rw [bLt_t (by omega), if_neg hm, e16]
  by_cases h6 : o < 6
  · rw [bEq_f (by omega), w32_n (by omega), s2]
    have R1 : rM T n a (o + 1) (sM [] a (o + 1) σ) := rM_s (l := []) R ra (by show 0 + a ≤ a; omega) (by omega)
    have nxt : ∀ c : Int, nx T n a = c → c ≠ -1 → a < n := fun c h1 h2 => nx_lt (T := T) (by rw [h1]; exact h2)
    have R2 : ∀ c : Int, nx T n a = c → c ≠ -1 → rM T n (a + 1) (o + 1) (sM [] (a + 1) (o + 1) σ) := fun c h1 h2 => rM_s (l := []) R (nxt c h1 h2) (by show 0 + a ≤ a + 1; omega) (by omega)
    have w1 : sM [] (a + 1) (o + 1) (sM [] a (o + 1) σ) = sM [] (a + 1) (o + 1) σ := sM_s
    have G : ∀ (r : Nat), a < n → gd n (a + 1) (pr T n f r (o + 1) (a + 1)) := fun r h => pr_g f r (o + 1) (a + 1) h
    have w153 : ∀ (l : List Int) (b : Nat) (x : Int), l.length + a ≤ 120 → mcall (D + 2) 153 [(30, 64), (0, x)] (sM l b (o + 1) σ) = some (1, sM (l ++ [x]) b (o + 1) σ) := fun l b x hl => by
      rw [s_153 (by rw [sM_17]; omega) (by rw [sM_17]; omega), sM_1]
    rw [s_152 R1, w1]
    by_cases h1 : nx T n a = 33
    · have ha := nxt 33 h1 (by omega)
      rw [if_pos h1, if_pos ⟨Or.inl h1, h6⟩, bK_t, bEq_f (by omega), h156 h6 (a + 1) _ (R2 33 h1 (by omega)), h1]
      have g := G 5 ha
      rcases hx : pr T n f 5 (o + 1) (a + 1) with ⟨ok, b, l⟩
      rw [hx] at g
      obtain ⟨g1, g2, g3, g4⟩ := g
      simp only at g1 g2 g3
      unfold rsM
      simp only
      rw [bK_t, sM_s, List.nil_append]
      cases ok with
      | false => rw [if_neg (by decide), bEq_t rfl, f_156_144, f_156_145, f214 o6 (by omega)]
      | true => rw [if_pos rfl, bEq_f (by omega), w153 l b 16 (by omega), bK_t, bEq_f (by omega), f_156_145, f214 o6 (by omega)]; rfl
    rw [if_neg h1, bK_t, bEq_t rfl, s_152 R1, w1]
    by_cases h2 : nx T n a = 45
    · have ha := nxt 45 h2 (by omega)
      rw [if_pos h2, if_pos ⟨Or.inr h2, h6⟩, bK_t, bEq_f (by omega), h156 h6 (a + 1) _ (R2 45 h2 (by omega)), h2]
      have g := G 5 ha
      rcases hx : pr T n f 5 (o + 1) (a + 1) with ⟨ok, b, l⟩
      rw [hx] at g
      obtain ⟨g1, g2, g3, g4⟩ := g
      simp only at g1 g2 g3
      unfold rsM
      simp only
      rw [bK_t, sM_s, List.nil_append]
      cases ok with
      | false => rw [if_neg (by decide), bEq_t rfl, f_156_178, f_156_179, f214 o6 (by omega)]
      | true => rw [if_pos rfl, bEq_f (by omega), w153 l b 17 (by omega), bK_t, bEq_f (by omega), f_156_179, f214 o6 (by omega)]; rfl
    rw [if_neg h2, bK_t, bEq_t rfl, s_152 R1, w1, if_neg (c := (nx T n a = 33 ∨ nx T n a = 45) ∧ o < 6) (fun z => by rcases z.1 with z | z; exact h1 z; exact h2 z)]
    by_cases h3 : nx T n a = 40
    · have ha := nxt 40 h3 (by omega)
      rw [if_pos h3, if_pos ⟨h3, h6⟩, bK_t, bEq_f (by omega), h161 h6 (a + 1) _ (R2 40 h3 (by omega))]
      have g := G 0 ha
      rcases hx : pr T n f 0 (o + 1) (a + 1) with ⟨ok, b, l⟩
      rw [hx] at g
      obtain ⟨g1, g2, g3, g4⟩ := g
      simp only at g1 g2 g3
      unfold rsM
      simp only
      rw [bK_t, sM_s, List.nil_append]
      cases ok with
      | false => rw [if_neg (by decide), bEq_t rfl, f_156_212, f_156_213, f214 o6 (by omega)]
      | true =>
        have R3 : rM T n b (o + 1) (sM l b (o + 1) σ) := rM_s R g2 (by omega) (by omega)
        rw [if_pos rfl, bEq_f (by omega), s_152 R3]
        by_cases h4 : nx T n b = 41
        · rw [if_pos h4, bK_t, bEq_f (by omega), sM_s, List.append_nil, f_156_213, f214 o6 (by omega)]
          simp only [if_pos h4]
          rfl
        · rw [if_neg h4, bK_t, bEq_t rfl, f_156_212, f_156_213, f214 o6 (by omega)]
          simp only [if_neg h4]
          rfl
    · rw [if_neg h3, bK_t, bEq_t rfl, f_156_212, f_156_213, f214 o6 (by omega), if_neg (fun z => h3 z.1)]
      rfl
  · have : o = 6 := by omega
    rw [bEq_t (by omega), bIn_t (by omega), if_neg (fun z => h6 z.2), if_neg (fun z => h6 z.2)]
    unfold rsM
    rw [s0]
    rfl
end
