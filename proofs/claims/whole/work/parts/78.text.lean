/-! PURE PART 55: reading, in the model: chains -/
section
variable {n o D : Nat} {T : Nat → Int} {σ : mM} {mx : Int × Int}
def stp (T : Nat → Int) (n o D r M m' : Nat) (mx : Int × Int) (Lo : mV → List mV) : Prop := ∀ (a' : Nat) (u : mV) (τ : mM), uvl u → rM T n a' o τ → mgo (mcall (D + 2)) mx M 9 (Lo u) [] τ = if rkO (nx T n a') = r then bK (mcall (D + 2) m' [(30, 64)] (sM [] (a' + 1) o τ)) (fun r3 s4 => bEq r3 0 (bIn 0 2 (some (0, s4))) (bK (mcall (D + 2) 153 [(30, 64), (0, opO (nx T n a'))] s4) (fun _ s6 => mgo (mcall (D + 2)) mx M 9 (Lo (0, opO (nx T n a'))) [] s6))) else bIn 1 2 (some (1, τ))
theorem lpM {r M m' a0 : Nat} {Lo : mV → List mV} {g : Nat → Bool × Nat × List Int} (step : stp T n o D r M m' mx Lo) (ih : ∀ a τ, rM T n a o τ → mcall (D + 2) m' [(30, 64)] τ = rsM o (g a) τ) (hg : ∀ a, a ≤ n → gd n a (g a)) (hr : r < 9) (R0 : rM T n a0 o σ) : ∀ (k a' : Nat) (l : List Int) (u : mV), uvl u → n ≤ a' + k → a0 < a' → a' ≤ n → l.length + a0 ≤ a' → mgo (mcall (D + 2)) mx M 9 (Lo u) [] (sM l a' o σ) = rsM o (lp T n g r k a' l) σ := by
  intro k
  have n120 := R0.1
  have o6 := R0.2.2.1
  have c0 := R0.2.2.2.2.2.2.2.1
  have c1 := R0.2.2.2.2.2.2.2.2
  induction k with
  | zero =>
    intro a' l u hu hk h1 h2 h3
    have R1 := rM_s (b := a') (l := l) (p := o) R0 h2 h3 o6
    have e : nx T n a' = -1 := by unfold nx; rw [if_neg (by omega)]
    rw [step a' u _ hu R1, e, if_neg (by show ¬ 9 = r; omega), bIn_t (by omega)]
    rfl
  | succ k ihk =>
    intro a' l u hu hk h1 h2 h3
    have R1 := rM_s (b := a') (l := l) (p := o) R0 h2 h3 o6
    rw [step a' u _ hu R1]
    unfold lp
    by_cases h : rkO (nx T n a') = r
    · have hn : a' < n := nx_lt (T := T) (fun e => by rw [e] at h; have : rkO (-1) = 9 := rfl; omega)
      have R2 := rM_s (b := a' + 1) (l := l) (p := o) R0 (by omega) (by omega) o6
      have G := hg (a' + 1) (by omega)
      rw [if_pos h, if_pos h, sM_s, List.append_nil, ih (a' + 1) _ R2]
      rcases hx : g (a' + 1) with ⟨ok, b, m⟩
      rw [hx] at G
      obtain ⟨g1, g2, g3, g4⟩ := G
      simp only at g1 g2 g3
      unfold rsM
      simp only
      rw [bK_t, sM_s]
      cases ok with
      | false => rw [if_neg (by decide), bEq_t rfl, bIn_t (by omega)]
      | true =>
        rw [if_pos rfl, bEq_f (by omega), s_153 (by rw [sM_17]; omega) (by rw [sM_17, List.length_append]; omega), bK_t, sM_1, List.append_assoc]
        exact ihk b (l ++ (m ++ [opO (nx T n a')])) _ (Or.inr ⟨_, rfl⟩) (by omega) (by omega) g2 (by rw [List.length_append, List.length_append, List.length_singleton]; omega)
    · rw [if_neg h, if_neg h, bIn_t (by omega)]
      rfl
theorem sM_p {a' : Nat} {τ : mM} (R : rM T n a' o τ) : mset τ 64 15 (w32 (τ 64 15 + 1)) = sM [] (a' + 1) o τ := by
  have n120 := R.1
  have ra := R.2.1
  have := sM_a (l := []) (b := a') (c := a' + 1) (o := o) (σ := τ)
  rw [sM_0 R.2.2.2.2.1 R.2.2.2.2.2.1] at this
  rw [R.2.2.2.2.1, w32_n (by omega)]
  exact this
theorem rk3 {c : Int} (h1 : ¬ c = 43) (h2 : ¬ c = 45) : ¬ rkO c = 3 := by
  unfold rkO
  rw [if_neg (c := c = 43 ∨ c = 45) (by omega)]
  repeat' split
  all_goals omega
theorem rk4 {c : Int} (h1 : ¬ c = 42) (h2 : ¬ c = 47) (h3 : ¬ c = 37) : ¬ rkO c = 4 := by
  unfold rkO
  rw [if_neg (c := c = 42 ∨ c = 47 ∨ c = 37) (by omega)]
  repeat' split
  all_goals omega
theorem stp_161 : stp T n o D 0 161 160 mx (fun _ => [(30, 64)]) := by
  intro a' u τ hu R
  rw [b_161_9, s_152 R]
  by_cases h : nx T n a' = 124
  · rw [if_pos h, h, if_pos (by rfl), bK_t, bEq_f (by omega)]
    rfl
  · rw [if_neg h, if_neg (fun z => by unfold rkO at z; rw [if_neg h] at z; repeat' split at z
                                      all_goals omega), bK_t, bEq_t rfl]
theorem stp_160 : stp T n o D 1 160 159 mx (fun _ => [(30, 64)]) := by
  intro a' u τ hu R
  rw [b_160_9, s_152 R]
  by_cases h : nx T n a' = 38
  · rw [if_pos h, h, if_pos (by rfl), bK_t, bEq_f (by omega)]
    rfl
  · rw [if_neg h, if_neg (fun z => by unfold rkO at z; rw [if_neg (c := nx T n a' = 38) h] at z; repeat' split at z
                                      all_goals omega), bK_t, bEq_t rfl]
theorem stp_158 : stp T n o D 3 158 157 mx (fun u => [(30, 64), u]) := by
  intro a' u τ hu R
  have e : mgo (mcall (D + 2)) mx 158 9 [(30, 64), u] [] τ = mgo (mcall (D + 2)) mx 158 9 [(30, 64), (0, 0)] [] τ := by
    rcases hu with rfl | ⟨x, rfl⟩
    · rw [b_158_9a, b_158_9]
    · rw [b_158_9 _ _ x, b_158_9 _ _ 0]
  show mgo (mcall (D + 2)) mx 158 9 [(30, 64), u] [] τ = _
  rw [e, b_158_9, s_151 R, bK_t]
  by_cases h1 : nx T n a' = 43
  · rw [bEq_t h1, bLt_f (by omega), sM_p R, h1, if_pos (by rfl)]
    rfl
  rw [bEq_f h1, s_151 R, bK_t]
  by_cases h2 : nx T n a' = 45
  · rw [bEq_t h2, bLt_f (by omega), sM_p R, h2, if_pos (by rfl)]
    rfl
  rw [bEq_f h2, bLt_t (by omega), if_neg (rk3 h1 h2)]
theorem stp_157 : stp T n o D 4 157 156 mx (fun u => [(30, 64), u]) := by
  intro a' u τ hu R
  have e : mgo (mcall (D + 2)) mx 157 9 [(30, 64), u] [] τ = mgo (mcall (D + 2)) mx 157 9 [(30, 64), (0, 0)] [] τ := by
    rcases hu with rfl | ⟨x, rfl⟩
    · rw [b_157_9a, b_157_9]
    · rw [b_157_9 _ _ x, b_157_9 _ _ 0]
  show mgo (mcall (D + 2)) mx 157 9 [(30, 64), u] [] τ = _
  rw [e, b_157_9, s_151 R, bK_t]
  by_cases h1 : nx T n a' = 42
  · rw [bEq_t h1, bLt_f (by omega), sM_p R, h1, if_pos (by rfl)]
    rfl
  rw [bEq_f h1, s_151 R, bK_t]
  by_cases h2 : nx T n a' = 47
  · rw [bEq_t h2, bLt_f (by omega), sM_p R, h2, if_pos (by rfl)]
    rfl
  rw [bEq_f h2, s_151 R, bK_t]
  by_cases h3 : nx T n a' = 37
  · rw [bEq_t h3, bLt_f (by omega), sM_p R, h3, if_pos (by rfl)]
    rfl
  rw [bEq_f h3, bLt_t (by omega), if_neg (rk4 h1 h2 h3)]
end
