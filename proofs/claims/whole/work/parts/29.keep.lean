/-! PURE PART 9: what the model keeps -/
def kpV (V : cV) (j : Nat) : Int := if j < 90 then V (j / 30) (j % 30) else V 3 (j - 90)
def kpI (n x : Nat) (V : cV) (σ : mM) : mM := fun a j => if a = x ∧ j < 90 ∧ j % 30 < n then kpV V j else σ a j
def kpA (x : Nat) (V : cV) (σ : mM) : mM := fun a j => if a = x ∧ j < 92 then kpV V j else σ a j
theorem kpI_s {i x q1 q2 : Nat} {V : cV} {σ : mM} (hi : i < 30) (h1 : q1 = 30 + i) (h2 : q2 = 60 + i) : mset (mset (mset (kpI i x V σ) x i (V 0 i)) x q1 (V 1 i)) x q2 (V 2 i) = kpI (i + 1) x V σ := by
  funext a j
  by_cases ha : a = x
  · subst ha
    by_cases e2 : j = q2
    · rw [e2, ms_e, show kpI (i + 1) a V σ a q2 = kpV V q2 from if_pos ⟨rfl, by omega, by omega⟩, show kpV V q2 = V (q2 / 30) (q2 % 30) from if_pos (by omega), show q2 / 30 = 2 by omega, show q2 % 30 = i by omega]
    · rw [ms_n (Or.inr e2)]
      by_cases e1 : j = q1
      · rw [e1, ms_e, show kpI (i + 1) a V σ a q1 = kpV V q1 from if_pos ⟨rfl, by omega, by omega⟩, show kpV V q1 = V (q1 / 30) (q1 % 30) from if_pos (by omega), show q1 / 30 = 1 by omega, show q1 % 30 = i by omega]
      · rw [ms_n (Or.inr e1)]
        by_cases e0 : j = i
        · rw [e0, ms_e, show kpI (i + 1) a V σ a i = kpV V i from if_pos ⟨rfl, by omega, by omega⟩, show kpV V i = V (i / 30) (i % 30) from if_pos (by omega), show i / 30 = 0 by omega, show i % 30 = i by omega]
        · rw [ms_n (Or.inr e0)]
          by_cases h : j < 90 ∧ j % 30 < i
          · rw [show kpI i a V σ a j = kpV V j from if_pos ⟨rfl, h⟩, show kpI (i + 1) a V σ a j = kpV V j from if_pos ⟨rfl, by omega, by omega⟩]
          · rw [show kpI i a V σ a j = σ a j from if_neg (fun z => h z.2), show kpI (i + 1) a V σ a j = σ a j from if_neg (fun z => by have := z.2; omega)]
  · rw [ms_n (Or.inl ha), ms_n (Or.inl ha), ms_n (Or.inl ha), show kpI i x V σ a j = σ a j from if_neg (fun z => ha z.1), show kpI (i + 1) x V σ a j = σ a j from if_neg (fun z => ha z.1)]
theorem s_178l {K : mK} {mx : Int × Int} {x : Nat} {V : cV} {σ : mM} (hx : x ≠ 65 ∧ x ≠ 66 ∧ x ≠ 67 ∧ x ≠ 69 ∧ x ≠ 64) : ∀ (n i : Nat), i + n = 30 → mgo K mx 178 2 [(30, 64), (1092, (x : Int)), (0, (i : Int))] [] (sL 65 66 67 69 0 64 6 V (kpI i x V σ)) = mgo K mx 178 2 [(30, 64), (1092, (x : Int)), (0, 30)] [] (sL 65 66 67 69 0 64 6 V (kpI 30 x V σ)) := by
  intro n
  induction n with
  | zero =>
    intro i hi
    rw [show i = 30 by omega]
    rfl
  | succ n ih =>
    intro i hi
    have hi3 : i < 30 := by omega
    obtain ⟨q1, h1⟩ : ∃ q, q = 30 + i := ⟨_, rfl⟩
    obtain ⟨q2, h2⟩ : ∃ q, q = 60 + i := ⟨_, rfl⟩
    have w1 : w32 (30 + (i : Int)) = (q1 : Int) := by rw [w32_e (by omega)]; omega
    have w2 : w32 (60 + (i : Int)) = (q2 : Int) := by rw [w32_e (by omega)]; omega
    have u : ∀ (τ : mM) (j : Nat) (v : Int), mset (sL 65 66 67 69 0 64 6 V τ) x j v = sL 65 66 67 69 0 64 6 V (mset τ x j v) := fun τ j v => uL_0 (by omega)
    have b := b_178_2 K mx x (i : Int) (sL 65 66 67 69 0 64 6 V (kpI i x V σ))
    rw [bLt_t (by omega), bIn_t (by omega), bIn_t (by omega), w1, w2, bIn_t (by omega), bIn_t (by omega), bIn_t (by omega), bIn_t (by omega), w32_n (by omega)] at b
    refine Eq.trans b ?_
    simp only [tn_n, u, sL_1 hi3, sL_2 dM hi3, sL_3 dM hi3]
    rw [kpI_s hi3 h1 h2]
    exact ih (i + 1) (by omega)
theorem s_178 {d x : Nat} {V : cV} {σ : mM} (hx : x ≠ 65 ∧ x ≠ 66 ∧ x ≠ 67 ∧ x ≠ 69 ∧ x ≠ 64) : mcall (d + 1) 178 [(30, 64), (1092, (x : Int))] (sL 65 66 67 69 0 64 6 V σ) = some (0, sL 65 66 67 69 0 64 6 V (kpA x V σ)) := by
  have u : ∀ (τ : mM) (j : Nat) (v : Int), mset (sL 65 66 67 69 0 64 6 V τ) x j v = sL 65 66 67 69 0 64 6 V (mset τ x j v) := fun τ j v => uL_0 (by omega)
  have aa := s_178l (K := mcall d) (mx := mX 178 (sL 65 66 67 69 0 64 6 V σ)) (x := x) (V := V) (σ := σ) hx 30 0 rfl
  rw [show kpI 0 x V σ = σ from funext fun k => funext fun j => if_neg (by omega)] at aa
  rw [e_178]
  refine Eq.trans aa ?_
  have b := b_178_2 (mcall d) (mX 178 (sL 65 66 67 69 0 64 6 V σ)) x 30 (sL 65 66 67 69 0 64 6 V (kpI 30 x V σ))
  refine Eq.trans b ?_
  rw [bLt_f (by omega), bIn_t (by omega), bIn_t (by omega), bIn_t (by omega), u, sL_4 dM, sL_5 dM, u]
  refine congrArg (fun τ : mM => some ((0 : Int), sL 65 66 67 69 0 64 6 V τ)) ?_
  funext a j
  by_cases ha : a = x
  · subst ha
    by_cases e1 : j = 91
    · rw [e1, ms_e]; exact ((show kpA a V σ a 91 = kpV V 91 from if_pos ⟨rfl, by omega⟩).trans rfl).symm
    · rw [ms_n (Or.inr e1)]
      by_cases e0 : j = 90
      · rw [e0, ms_e]; exact ((show kpA a V σ a 90 = kpV V 90 from if_pos ⟨rfl, by omega⟩).trans rfl).symm
      · rw [ms_n (Or.inr e0)]
        by_cases h : j < 90
        · rw [show kpI 30 a V σ a j = kpV V j from if_pos ⟨rfl, h, by omega⟩, show kpA a V σ a j = kpV V j from if_pos ⟨rfl, by omega⟩]
        · rw [show kpI 30 a V σ a j = σ a j from if_neg (fun z => h z.2.1), show kpA a V σ a j = σ a j from if_neg (fun z => by have := z.2; omega)]
  · rw [ms_n (Or.inl ha), ms_n (Or.inl ha), show kpI 30 x V σ a j = σ a j from if_neg (fun z => ha z.1), show kpA x V σ a j = σ a j from if_neg (fun z => ha z.1)]
/-- what was kept is had again -/
theorem gK_kp {x : Nat} {V : cV} {σ : mM} (N : nV V) : gK x (kpA x V σ) = V := by
  funext k j
  unfold gK
  by_cases hk : k < 3
  · rw [if_pos hk]
    by_cases hj : j < 30
    · rw [if_pos hj, show kpA x V σ x (30 * k + j) = kpV V (30 * k + j) from if_pos ⟨rfl, by omega⟩, show kpV V (30 * k + j) = V ((30 * k + j) / 30) ((30 * k + j) % 30) from if_pos (by omega), show (30 * k + j) / 30 = k by omega, show (30 * k + j) % 30 = j by omega]
    · rw [if_neg hj, N k j (by omega)]
  · rw [if_neg hk]
    by_cases h0 : k = 3 ∧ j = 0
    · rw [if_pos h0, h0.1, h0.2]; exact (show kpA x V σ x 90 = kpV V 90 from if_pos ⟨rfl, by omega⟩).trans rfl
    · rw [if_neg h0]
      by_cases h1 : k = 3 ∧ j = 1
      · rw [if_pos h1, h1.1, h1.2]; exact (show kpA x V σ x 91 = kpV V 91 from if_pos ⟨rfl, by omega⟩).trans rfl
      · rw [if_neg h1, N k j (by omega)]
