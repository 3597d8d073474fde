/-! PURE PART 69: the command 'law', in the model, whole -/
section
variable {d n : Nat} {T : Nat → Int} {σ τ : mM} {mx : Int × Int} {K : mK}
theorem segM_t {c e : Nat} : ∀ {s : List Int} {o m : Nat}, o + s.length ≤ m → (∀ j, j < m → τ e j = σ c j) → segM σ c o s → segM τ e o s := by
  intro s
  induction s with
  | nil => intro o m _ _ _; trivial
  | cons x r ih =>
    intro o m hm q h
    rw [List.length_cons] at hm
    exact ⟨(q o (by omega)).trans h.1, ih (by omega) q h.2⟩
theorem lawO_M {O I : Nat} (hO : O ≤ 120) (hI : I ≤ 60) (h10 : τ 64 10 = (I : Int)) (e1 : ∀ j, j < I → τ 71 j = σ 75 j ∧ τ 72 j = σ 76 j ∧ τ 73 j = σ 77 j) (e2 : ∀ j, j < O → τ 74 j = σ 78 j) : ∀ {L : List (List Int × List Int)} {o i : Nat}, lawO σ o i L O I → lawM τ o i L := by
  intro L
  induction L with
  | nil =>
    intro o i h
    have hi : i = I := h.2
    exact ⟨by rw [hi]; exact h10, by omega⟩
  | cons x r ih =>
    obtain ⟨Q, A⟩ := x
    intro o i h
    obtain ⟨a1, a2, a3, a4, a5, a6, a7, h⟩ := h
    have l := lawO_l h
    obtain ⟨f1, f2, f3⟩ := e1 i (by omega)
    exact ⟨f1.trans a1, f2.trans a2, f3.trans a3, segM_t (by omega) e2 a4, segM_t (by omega) e2 a5, a6, a7, by omega, ih h⟩
theorem l_99 {v1 v2 : Int} {I : Nat} (hI : I ≤ 60) : ∀ (m v : Nat) (τ : mM), v + m = I → τ 64 10 = (I : Int) → ∃ μ, mgo K mx 163 99 [(30, 64), (0, v1), (0, v2), (0, (v : Int))] [] τ = mgo K mx 163 151 [(30, 64), (0, v1), (0, v2), (0, 0)] [] μ ∧ (∀ b j, ¬ (71 ≤ b ∧ b ≤ 73) → μ b j = τ b j) ∧ (∀ j, j < v → μ 71 j = τ 71 j ∧ μ 72 j = τ 72 j ∧ μ 73 j = τ 73 j) ∧ ∀ j, v ≤ j → j < I → μ 71 j = τ 75 j ∧ μ 72 j = τ 76 j ∧ μ 73 j = τ 77 j := by
  intro m
  induction m with
  | zero =>
    intro v τ hv h10
    refine ⟨τ, ?_, fun _ _ _ => rfl, fun _ _ => ⟨rfl, rfl, rfl⟩, fun j h1 h2 => by omega⟩
    rw [f_163_99, h10, bLt_f (by omega)]
  | succ m ih =>
    intro v τ hv h10
    have e1 : (mset τ 71 v (τ 75 v)) 76 v = τ 76 v := ms_n (by omega)
    have e2 : (mset (mset τ 71 v (τ 75 v)) 72 v (τ 76 v)) 77 v = τ 77 v := (ms_n (by omega)).trans (ms_n (by omega))
    obtain ⟨μ, i1, i2, i3, i4⟩ := ih (v + 1) (mset (mset (mset τ 71 v (τ 75 v)) 72 v (τ 76 v)) 73 v (τ 77 v)) (by omega) (by rw [ms_n (by omega), ms_n (by omega), ms_n (by omega)]; exact h10)
    refine ⟨μ, ?_, fun b j h => (i2 b j h).trans (by rw [ms_n (by omega), ms_n (by omega), ms_n (by omega)]), fun j hj => ?_, fun j h1 h2 => ?_⟩
    · rw [f_163_99, h10, bLt_t (by omega), bIn_t (by omega), bIn_t (by omega), bIn_t (by omega), bIn_t (by omega), bIn_t (by omega), bIn_t (by omega), tn_n v, w32_n (by omega), e1, e2]
      exact i1
    · obtain ⟨k1, k2, k3⟩ := i3 j (by omega)
      exact ⟨k1.trans (by rw [ms_n (by omega), ms_n (by omega), ms_n (by omega)]), k2.trans (by rw [ms_n (by omega), ms_n (by omega), ms_n (by omega)]), k3.trans (by rw [ms_n (by omega), ms_n (by omega), ms_n (by omega)])⟩
    · by_cases hj : j = v
      · obtain ⟨k1, k2, k3⟩ := i3 j (by omega)
        subst hj
        exact ⟨k1.trans (by rw [ms_n (by omega), ms_n (by omega), ms_e]), k2.trans (by rw [ms_n (by omega), ms_e]), k3.trans ms_e⟩
      · obtain ⟨k1, k2, k3⟩ := i4 j (by omega) h2
        exact ⟨k1.trans (by rw [ms_n (by omega), ms_n (by omega), ms_n (by omega)]), k2.trans (by rw [ms_n (by omega), ms_n (by omega), ms_n (by omega)]), k3.trans (by rw [ms_n (by omega), ms_n (by omega), ms_n (by omega)])⟩
theorem l_151 {v1 v2 : Int} {O : Nat} (hO : O ≤ 120) : ∀ (m v : Nat) (τ : mM), v + m = O → τ 64 17 = (O : Int) → ∃ μ, mgo K mx 163 151 [(30, 64), (0, v1), (0, v2), (0, (v : Int))] [] τ = some (1, μ) ∧ (∀ b j, b ≠ 74 → μ b j = τ b j) ∧ (∀ j, j < v → μ 74 j = τ 74 j) ∧ ∀ j, v ≤ j → j < O → μ 74 j = τ 78 j := by
  intro m
  induction m with
  | zero =>
    intro v τ hv h17
    refine ⟨τ, ?_, fun _ _ _ => rfl, fun _ _ => rfl, fun j h1 h2 => by omega⟩
    rw [f_163_151, h17, bLt_f (by omega)]
  | succ m ih =>
    intro v τ hv h17
    obtain ⟨μ, i1, i2, i3, i4⟩ := ih (v + 1) (mset τ 74 v (τ 78 v)) (by omega) (by rw [ms_n (by omega)]; exact h17)
    refine ⟨μ, ?_, fun b j h => (i2 b j h).trans (ms_n (by omega)), fun j hj => (i3 j (by omega)).trans (ms_n (by omega)), fun j h1 h2 => ?_⟩
    · rw [f_163_151, h17, bLt_t (by omega), bIn_t (by omega), bIn_t (by omega), tn_n v, w32_n (by omega)]
      exact i1
    · by_cases hj : j = v
      · subst hj
        exact (i3 j (by omega)).trans ms_e
      · exact (i4 j (by omega) h2).trans (ms_n (by omega))
theorem s_163 (hn : n ≤ 120) (h7 : σ 64 7 = (n : Int)) (hT : ∀ i, i < n → σ 70 i = T i) : ∃ μ, mcall (d + 63) 163 [(30, 64)] σ = some (if (pl T n (n + 1) 0).1 = true then 1 else -100 - ((pl T n (n + 1) 0).2.1 : Int), μ) ∧ (∀ b j, ¬ (b = 64 ∧ (j = 7 ∨ j = 9 ∨ j = 10 ∨ (15 ≤ j ∧ j ≤ 18))) → ¬ (71 ≤ b ∧ b ≤ 78) → μ b j = σ b j) ∧ μ 64 7 = 0 ∧ ((pl T n (n + 1) 0).1 = true → lawM μ 0 0 (pl T n (n + 1) 0).2.2 ∧ μ 64 9 = 1) ∧ (¬ (pl T n (n + 1) 0).1 = true → ∀ b j, (b = 64 ∧ (j = 9 ∨ j = 10)) ∨ (71 ≤ b ∧ b ≤ 74) → μ b j = σ b j) := by
  have R : rM T n 0 0 (mset (mset (mset (mset σ 64 15 0) 64 16 0) 64 17 0) 64 18 0) := by
    refine ⟨hn, Nat.zero_le _, Nat.zero_le _, ?_, ?_, ?_, fun i hi => ?_, ?_, ?_⟩
    · rw [ms_n (by omega), ms_n (by omega), ms_n (by omega), ms_n (by omega)]; exact h7
    · rw [ms_n (by omega), ms_n (by omega), ms_n (by omega), ms_e]; rfl
    · rw [ms_n (by omega), ms_n (by omega), ms_e]; rfl
    · rw [ms_n (by omega), ms_n (by omega), ms_n (by omega), ms_n (by omega)]; exact hT i hi
    · rw [ms_n (by omega), ms_e]; exact Int.le_refl _
    · rw [ms_n (by omega), ms_e]; exact Int.le_refl _
  obtain ⟨μ, vv, i1, i2, i3, i4, i5⟩ := l_163 (d := d) (mx := mX 163 σ) (n + 1) 0 _ [] 0 0 (by omega) R ⟨rfl, rfl⟩ (by rw [ms_n (by omega), ms_e]; rfl) ms_e (Nat.le_refl _)
  have f : ∀ b j, ¬ (b = 64 ∧ 15 ≤ j ∧ j ≤ 18) → ¬ (75 ≤ b ∧ b ≤ 78) → μ b j = σ b j := fun b j h1 h2 => by
    rw [i2 b j h1 h2, ms_n (by omega), ms_n (by omega), ms_n (by omega), ms_n (by omega)]
  by_cases hp : (pl T n (n + 1) 0).1 = true
  · obtain ⟨O, I, x1, x2, x3, x4, x5⟩ := i5 hp
    obtain ⟨ν, k1, k2, k3, k4⟩ := l_99 (K := mcall (d + 62)) (mx := mX 163 σ) (v1 := vv) (v2 := 1) (I := I) x5 I 0 (mset (mset (mset μ 64 7 0) 64 9 1) 64 10 (I : Int)) (by omega) ms_e
    have g : ∀ b j, ¬ (b = 64 ∧ (j = 7 ∨ j = 9 ∨ j = 10)) → (mset (mset (mset μ 64 7 0) 64 9 1) 64 10 (I : Int)) b j = μ b j := fun b j h => by
      rw [ms_n (by omega), ms_n (by omega), ms_n (by omega)]
    obtain ⟨ρ, m1, m2, m3, m4⟩ := l_151 (K := mcall (d + 62)) (mx := mX 163 σ) (v1 := vv) (v2 := 1) (O := O) x4 O 0 ν (by omega) (by rw [k2 64 17 (by omega), g 64 17 (by omega)]; exact x2)
    have e18 : (mset (mset μ 64 7 0) 64 9 1) 64 18 = (I : Int) := (ms_n (by omega)).trans ((ms_n (by omega)).trans x3)
    refine ⟨ρ, ?_, fun b j q1 q2 => ?_, ?_, fun _ => ⟨?_, ?_⟩, fun z => absurd hp z⟩
    · rw [f_163, i1, f_163_66, if_pos hp, if_pos hp, bEq_f (by decide), bIn_t (by decide), e18]
      exact k1.trans m1
    · rw [m2 b j (by omega), k2 b j (by omega), g b j (by omega)]; exact f b j (by omega) (by omega)
    · rw [m2 64 7 (by omega), k2 64 7 (by omega), ms_n (by omega), ms_n (by omega), ms_e]
    · refine lawO_M (σ := μ) x4 x5 ?_ (fun j hj => ?_) (fun j hj => ?_) x1
      · rw [m2 64 10 (by omega), k2 64 10 (by omega), ms_e]
      · obtain ⟨y1, y2, y3⟩ := k4 j (Nat.zero_le _) hj
        exact ⟨(m2 71 j (by omega)).trans (y1.trans (g 75 j (by omega))), (m2 72 j (by omega)).trans (y2.trans (g 76 j (by omega))), (m2 73 j (by omega)).trans (y3.trans (g 77 j (by omega)))⟩
      · exact (m4 j (Nat.zero_le _) hj).trans ((k2 78 j (by omega)).trans (g 78 j (by omega)))
    · rw [m2 64 9 (by omega), k2 64 9 (by omega), ms_n (by omega), ms_e]
  · have e15 : (mset μ 64 7 0) 64 15 = ((pl T n (n + 1) 0).2.1 : Int) := (ms_n (by omega)).trans i3
    refine ⟨mset μ 64 7 0, ?_, fun b j q1 q2 => ?_, ms_e, fun z => absurd z hp, fun _ b j h => ?_⟩
    · rw [f_163, i1, f_163_66, if_neg hp, if_neg hp, bEq_t rfl, e15, w32_e (by omega)]
    · rw [ms_n (by omega)]; exact f b j (by omega) (by omega)
    · rw [ms_n (by omega)]; exact f b j (by omega) (by omega)
end
