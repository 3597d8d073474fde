/-! PURE PART 50: reading, in the class: small methods -/
section
variable {d n a w : Nat} {T : Nat → Int} {σ τ : mM} {K : mK} {mx : Int × Int}
def em1 (w : Nat) (x : Int) (σ : mM) : mM := mset (mset (mset σ (w + 1) (σ w 2).toNat (sgC x)) (w + 2) (σ w 2).toNat (nuC x)) w 2 (σ w 2 + 1)
def em (w : Nat) : List Int → mM → mM
  | [], σ => σ
  | x :: l, σ => em w l (em1 w x σ)
def st (w : Nat) (l : List Int) (b : Nat) (σ : mM) : mM := mset (em w l σ) 24 2 (b : Int)
theorem mset_c {c i e j : Nat} {v u : Int} (h : c ≠ e ∨ i ≠ j) : mset (mset σ c i v) e j u = mset (mset σ e j u) c i v := by
  funext x y
  unfold mset
  by_cases h1 : x = e ∧ y = j
  · rw [if_pos h1, if_neg (by omega), if_pos h1]
  · rw [if_neg h1, if_neg h1]
theorem mset_s {c i : Nat} {v u : Int} : mset (mset σ c i v) c i u = mset σ c i u := by
  funext x y
  unfold mset
  by_cases h1 : x = c ∧ y = i
  · rw [if_pos h1, if_pos h1]
  · rw [if_neg h1, if_neg h1, if_neg h1]
theorem em1_o {x : Int} {b j : Nat} (h : b ≠ w + 1) (h' : b ≠ w + 2) (h2 : b ≠ w ∨ j ≠ 2) : em1 w x σ b j = σ b j := by
  unfold em1
  rw [ms_n h2, ms_n (Or.inl h'), ms_n (Or.inl h)]
theorem em1_c {x : Int} : em1 w x σ w 2 = σ w 2 + 1 := by unfold em1; rw [ms_e]
theorem em_o {b j : Nat} (h : b ≠ w + 1) (h' : b ≠ w + 2) (h2 : b ≠ w ∨ j ≠ 2) : ∀ (l : List Int) (σ : mM), em w l σ b j = σ b j := by
  intro l
  induction l with
  | nil => intro σ; rfl
  | cons x l ih => intro σ; exact (ih (em1 w x σ)).trans (em1_o h h' h2)
theorem em_c : ∀ (l : List Int) (σ : mM), em w l σ w 2 = σ w 2 + (l.length : Int) := by
  intro l
  induction l with
  | nil => intro σ; exact (Int.add_zero _).symm
  | cons x l ih =>
    intro σ
    refine (ih (em1 w x σ)).trans ?_
    rw [em1_c, List.length_cons]
    omega
theorem em_a : ∀ (l m : List Int) (σ : mM), em w m (em w l σ) = em w (l ++ m) σ := by
  intro l
  induction l with
  | nil => intro m σ; rfl
  | cons x l ih => intro m σ; exact ih m (em1 w x σ)
theorem em1_t {x v : Int} (hw : w + 2 < 24) : em1 w x (mset σ 24 2 v) = mset (em1 w x σ) 24 2 v := by
  unfold em1
  rw [ms_n (a := w) (by omega), mset_c (c := 24) (e := w + 1) (by omega), mset_c (c := 24) (e := w + 2) (by omega), mset_c (c := 24) (e := w) (by omega)]
theorem em_t {v : Int} (hw : w + 2 < 24) : ∀ (l : List Int) (σ : mM), em w l (mset σ 24 2 v) = mset (em w l σ) 24 2 v := by
  intro l
  induction l with
  | nil => intro σ; rfl
  | cons x l ih =>
    intro σ
    show em w l (em1 w x (mset σ 24 2 v)) = mset (em w l (em1 w x σ)) 24 2 v
    rw [em1_t hw]
    exact ih _
theorem st_st {l m : List Int} {b c : Nat} (hw : w + 2 < 24) : st w m c (st w l b σ) = st w (l ++ m) c σ := by
  unfold st
  rw [em_t hw, mset_s, em_a]
theorem st_0 {b : Nat} (h : σ 24 2 = (b : Int)) : st w [] b σ = σ := by
  funext x y
  show mset σ 24 2 (b : Int) x y = σ x y
  by_cases h1 : x = 24 ∧ y = 2
  · rw [h1.1, h1.2, ms_e, h]
  · rw [ms_n (by omega)]
theorem st_m {l : List Int} {b c : Nat} : mset (st w l b σ) 24 2 (c : Int) = st w l c σ := mset_s
/-- the reader's state at place a -/
def rd (T : Nat → Int) (n w a : Nat) (σ : mM) : Prop := n ≤ 120 ∧ a ≤ n ∧ (w = 10 ∨ w = 17) ∧ σ 24 1 = (n : Int) ∧ σ 24 2 = (a : Int) ∧ σ 24 3 = (w : Int) ∧ (∀ i, i < n → σ 25 i = T i) ∧ 0 ≤ σ w 2 ∧ σ w 2 ≤ (a : Int)
theorem rd_st {l : List Int} {b : Nat} (R : rd T n w a σ) (h1 : b ≤ n) (h2 : l.length + a ≤ b) : rd T n w b (st w l b σ) := by
  obtain ⟨r1, r2, r3, r4, r5, r6, r7, r8, r9⟩ := R
  have e : ∀ j, j ≠ 2 → st w l b σ 24 j = σ 24 j := fun j hj => by
    unfold st
    rw [ms_n (by omega), em_o (by omega) (by omega) (by omega)]
  have c : st w l b σ w 2 = σ w 2 + (l.length : Int) := by
    unfold st
    rw [ms_n (by omega), em_c]
  refine ⟨r1, h1, r3, by rw [e 1 (by omega)]; exact r4, ms_e, by rw [e 3 (by omega)]; exact r6, fun i hi => ?_, by rw [c]; omega, by rw [c]; omega⟩
  unfold st
  rw [ms_n (by omega), em_o (by omega) (by omega) (by omega)]
  exact r7 i hi
theorem s_63 (R : rd T n w a σ) : mcall (d + 1) 63 [(26, 24)] σ = some (nx T n a, σ) := by
  obtain ⟨r1, r2, r3, r4, r5, r6, r7, r8, r9⟩ := R
  rw [e_63, r5, r4, bLt_f (by omega)]
  unfold nx
  by_cases h : a < n
  · rw [bLt_t (by omega), bIn_t (by omega), tn_n, r7 a h, if_pos h]
  · rw [bLt_f (by omega), if_neg h]
theorem s_64 {c : Int} : mcall (d + 1) 64 [(0, c)] σ = some (if 48 ≤ c ∧ c ≤ 57 then 1 else 0, σ) := by
  rw [e_64]
  by_cases h1 : c < 48
  · rw [bLt_t h1, bIn_t (by omega), if_neg (by omega)]
  · rw [bLt_f (by omega)]
    by_cases h2 : 57 < c
    · rw [bLt_t h2, bIn_t (by omega), if_neg (by omega)]
    · rw [bLt_f (by omega), bIn_t (by omega), if_pos (by omega)]
theorem s_28 {c : Int} : mcall (d + 1) 28 [(0, c)] σ = some (nmO c, σ) := by
  rw [e_28]
  unfold nmO
  by_cases h1 : c = 109
  · rw [bEq_t h1, if_neg (by omega), if_neg (by omega), if_neg (by omega), if_pos h1]
  rw [bEq_f h1]
  by_cases h2 : c = 110
  · rw [bEq_t h2, if_neg (by omega), if_neg (by omega), if_neg (by omega), if_neg (by omega), if_pos h2]
  rw [bEq_f h2]
  by_cases h3 : c = 111
  · rw [bEq_t h3, if_neg (by omega), if_neg (by omega), if_neg (by omega), if_neg (by omega), if_neg (by omega), if_neg (by omega)]
  rw [bEq_f h3]
  by_cases h3 : c = 112
  · rw [bEq_t h3, if_neg (by omega), if_neg (by omega), if_neg (by omega), if_neg (by omega), if_neg (by omega), if_neg (by omega)]
  rw [bEq_f h3]
  by_cases h3 : c = 113
  · rw [bEq_t h3, if_neg (by omega), if_neg (by omega), if_neg (by omega), if_neg (by omega), if_neg (by omega), if_neg (by omega)]
  rw [bEq_f h3]
  by_cases h3 : c = 114
  · rw [bEq_t h3, if_neg (by omega), if_neg (by omega), if_neg (by omega), if_neg (by omega), if_neg (by omega), if_neg (by omega)]
  rw [bEq_f h3]
  by_cases h4 : c = 115
  · rw [bEq_t h4, if_pos h4]
  rw [bEq_f h4, if_neg h4]
  by_cases h5 : c = 116
  · rw [bEq_t h5, if_pos h5]
  rw [bEq_f h5, if_neg h5]
  by_cases h3 : c = 117
  · rw [bEq_t h3, if_neg (by omega), if_neg (by omega), if_neg (by omega), if_neg (by omega)]
  rw [bEq_f h3]
  by_cases h3 : c = 118
  · rw [bEq_t h3, if_neg (by omega), if_neg (by omega), if_neg (by omega), if_neg (by omega)]
  rw [bEq_f h3]
  by_cases h6 : c = 119
  · rw [bEq_t h6, if_pos h6]
  rw [bEq_f h6, if_neg h6, if_neg h1, if_neg h2]
  by_cases h3 : c = 120
  · rw [bEq_t h3, if_neg (by omega)]
  rw [bEq_f h3]
  by_cases h7 : c = 121
  · rw [bEq_t h7, if_pos h7]
  rw [bEq_f h7, if_neg h7]
theorem s_65 {c : Int} : mcall (d + 1) 65 [(0, c)] σ = some (if rkO c < 5 then (rkO c : Int) else -1, σ) := by
  rw [e_65]
  by_cases h1 : c = 37
  · subst h1; rw [bEq_t rfl]; rfl
  rw [bEq_f h1]
  by_cases h2 : c = 38
  · subst h2; rw [bEq_t rfl]; rfl
  rw [bEq_f h2]
  by_cases h3 : c = 42
  · subst h3; rw [bEq_t rfl]; rfl
  rw [bEq_f h3]
  by_cases h4 : c = 43
  · subst h4; rw [bEq_t rfl]; rfl
  rw [bEq_f h4]
  by_cases h5 : c = 45
  · subst h5; rw [bEq_t rfl]; rfl
  rw [bEq_f h5]
  by_cases h6 : c = 47
  · subst h6; rw [bEq_t rfl]; rfl
  rw [bEq_f h6]
  by_cases h7 : c = 60
  · subst h7; rw [bEq_t rfl]; rfl
  rw [bEq_f h7]
  by_cases h8 : c = 61
  · subst h8; rw [bEq_t rfl]; rfl
  rw [bEq_f h8]
  by_cases h9 : c = 62
  · subst h9; rw [bEq_t rfl]; rfl
  rw [bEq_f h9]
  by_cases h10 : c = 124
  · subst h10; rw [bEq_t rfl]; rfl
  rw [bEq_f h10]
  have e : rkO c = 9 := by
    unfold rkO
    rw [if_neg (by omega), if_neg (by omega), if_neg (by omega), if_neg (by omega), if_neg (by omega)]
  rw [e, if_neg (by omega)]
theorem s_23 {x : Int} (hw : w = 10 ∨ w = 17) (h0 : 0 ≤ σ w 2) (h1 : σ w 2 < 120) : mcall (d + 1) 23 [(22, (w : Int)), (0, sgC x), (0, nuC x)] σ = some (0, em1 w x σ) := by
  rw [e_23, bLt_t h1, bIn_t ⟨h0, h1⟩, ms_n (by omega), bIn_t ⟨h0, h1⟩, ms_n (by omega), ms_n (by omega), w32_e (by omega)]
  rfl
theorem sg_op {c : Int} (h : rkO c < 9) : sgC (opO c) = c ∧ nuC (opO c) = 0 := by
  unfold rkO at h
  have hc : c = 124 ∨ c = 38 ∨ c = 60 ∨ c = 61 ∨ c = 62 ∨ c = 43 ∨ c = 45 ∨ c = 42 ∨ c = 47 ∨ c = 37 := by
    by_cases h1 : c = 124
    · omega
    rw [if_neg h1] at h
    by_cases h2 : c = 38
    · omega
    rw [if_neg h2] at h
    by_cases h3 : c = 60 ∨ c = 61 ∨ c = 62
    · omega
    rw [if_neg h3] at h
    by_cases h4 : c = 43 ∨ c = 45
    · omega
    rw [if_neg h4] at h
    by_cases h5 : c = 42 ∨ c = 47 ∨ c = 37
    · omega
    rw [if_neg h5] at h
    omega
  rcases hc with rfl | rfl | rfl | rfl | rfl | rfl | rfl | rfl | rfl | rfl <;> exact ⟨rfl, rfl⟩
end
